/-! The model: the check of a tour; plans. -/
section SI
variable {v : Nat → Nat → Int} {S : List Nat} {T : List Int} {k q : Nat}
theorem si_yes (hk : k < S.length) (h : S.getD k 0 = 2 * (q / 2)) (hn : ∀ j, j < k → S.getD j 0 ≠ 2 * (q / 2)) : T.getD k 0 = pl_since v S T q := by
  have hm : 2 * (q / 2) ∈ S := by
    rw [← h]
    exact gd_mem hk
  have h4 := gd_idx_le hk h
  have h6 : ¬ S.idxOf (2 * (q / 2)) < k := fun z => hn _ z (gd_idx hm).2
  unfold pl_since
  rw [if_pos hm, show S.idxOf (2 * (q / 2)) = k by omega]
theorem si_no (hn : ∀ j, j < S.length → S.getD j 0 ≠ 2 * (q / 2)) : v 5 (q / 2) = pl_since v S T q := by
  unfold pl_since
  rw [if_neg]
  intro hm
  have h := gd_idx (d := 0) hm
  exact hn _ h.1 h.2
end SI
theorem bt_1 {B : Bool} (h : B = true) : ii_v 1 = ii_v (if B = true then 1 else 0) := by rw [if_pos h]
theorem bt_0 {B : Bool} (h : B = false) : ii_v 0 = ii_v (if B = true then 1 else 0) := by rw [if_neg (by rw [h]; decide)]
theorem ii_or (A B : Bool) : ii_n (if A = true then 1 else 0) ||| ii_n (if B = true then 1 else 0) = ii_n (if (A || B) = true then 1 else 0) := by cases A <;> cases B <;> decide
theorem tr_same {f g : Nat → Nat → Int} {S : List Nat} (h : tr_I f S) (h1 : g 40 = f 40) (h2 : g 75 = f 75) : tr_I g S := by
  unfold tr_I
  rw [h1, h2]
  exact h
theorem ab_same {f g : Nat → Nat → Int} (h1 : g 57 = f 57) (h2 : g 63 = f 63) (h3 : g 60 = f 60) (b : Nat) : ∀ n, ab_n g b n = ab_n f b n
  | 0 => rfl
  | n + 1 => by rw [ab_n, ab_n, h1, h2, h3, ab_same h1 h2 h3 b n]
theorem ab_b {f : Nat → Nat → Int} {n b : Nat} (h : ∀ r, r < n → (0 ≤ f 57 r ∧ f 57 r ≤ 6) ∧ st_ok (f 63 r) ∧ -1 ≤ f 60 r ∧ f 60 r ≤ 10) : ∀ k, k ≤ n → 0 ≤ ab_n f b k ∧ ab_n f b k ≤ 6 * (k : Int)
  | 0, _ => by
    unfold ab_n
    omega
  | k + 1, hk => by
    have h1 := ab_b (b := b) h k (by omega)
    have h2 := h k (by omega)
    rw [ab_n]
    split
    · omega
    · omega
theorem mt_b {f v : Nat → Nat → Int} {b : Nat} {S : List Nat} (hv : pj_C f v) (hx : 0 ≤ f 44 b ∧ f 44 b ≤ 20) (hy : 0 ≤ f 45 b ∧ f 45 b ≤ 20) (_h6 : 0 ≤ f 46 b ∧ f 46 b ≤ 20) (_h7 : 0 ≤ f 47 b ∧ f 47 b ≤ 20) (hnow : 0 ≤ f 40 32 ∧ f 40 32 ≤ 100000) (hq : ∀ j, j < S.length → S.getD j 0 / 2 ≤ 30) (h8 : S.length ≤ 8) (j : Nat) (hj : j < S.length) : 0 ≤ (pl_tm v S (f 44 b) (f 45 b) (f 40 32)).getD j 0 ∧ (pl_tm v S (f 44 b) (f 45 b) (f 40 32)).getD j 0 ≤ 200000 := by
  have h := tm_b (nr := 30) (fun q h => (hv.1 q h).2.2) S (f 44 b) (f 45 b) (f 40 32) hq hx hy j hj
  omega
theorem ls_sinceM {f v : Nat → Nat → Int} {S : List Nat} {T : List Int} {q : Nat} (hT : ∀ j, j < S.length → 0 ≤ T.getD j 0 ∧ T.getD j 0 ≤ 200000) (hv : pj_C f v) (hq : q / 2 ≤ 30) : 0 ≤ pl_since v S T q ∧ pl_since v S T q ≤ 200000 := by
  unfold pl_since
  split
  · exact hT _ (gd_idx (d := 0) (by assumption)).1
  · have h := (hv.2 (q / 2) hq).2.2.2.2.2.2.2
    omega
theorem fl_A {A B : Bool} {P : Prop} [Decidable P] (h : A = (decide P || B)) : A = true ↔ P ∨ B = true := by
  rw [h, Bool.or_eq_true, decide_eq_true_eq]
set_option maxRecDepth 20000 in
set_option maxHeartbeats 2000000 in
theorem m_pickupOf {l : Launch} {E : ab_E} {base : Nat} (hl : l.stackTraces = false) {ad : Nat → Nat} (f : Nat → Nat → Int) (w : Nat × Nat × Int64 × UInt64) {v : Nat → Nat → Int} (hv : pj_C f v) {S : List Nat} (hS : tr_I f S) (hq : ∀ j, j < S.length → S.getD j 0 / 2 ≤ 30) (T : List Int) (hT : ∀ j, j < S.length → f 76 j = T.getD j 0) (q : Nat) (hq2 : q / 2 ≤ 30) (hod : ¬ q % 2 = 0) : ab_M l E base yX10_pickupOf cX10_pickupOf 3 (some .int) 1 0 0 [.ref (ad 40), ii_v ((q : Nat) : Int)] ab_x4 ad (f, w) (ab_R (ii_v (pl_since v S T q)) ab_x4 ad (f, w)) := by
  obtain ⟨Post, hPost⟩ : ∃ P : ab_P, P = (ab_R (ii_v (pl_since v S T q)) ab_x4 ad (f, w)) := ⟨_, rfl⟩
  rw [← hPost]
  refine ab_of RX10 [(0, .ref (ad 40)), (1, ii_v ((q : Nat) : Int))] hl (by decide) rfl (Nat.le_of_ble_eq_true rfl) rfl ?_
  intro p e s m args below meth c C T0 hnm
  obtain ⟨hc, h8, hj, hb64⟩ := id hS
  refine a_iconst C dX10_pickupOf_0 ?_
  refine a_istore_n (L' := [(0, .ref (ad 40)), (1, ii_v ((q : Nat) : Int)), (2, ii_v 0)]) C dX10_pickupOf_1 (by decide) rfl ?_
  have loop2 : ∀ (NN2 : Nat) (k : Nat), S.length - k < NN2 → (k ≤ S.length) → (∀ j, j < k → S.getD j 0 ≠ 2 * (q / 2)) → ab_W p l e (ab_rm 1 0 0) s m args below meth c E base 3 (ab_Q below E base Post args s 0 0) ab_x4 ad (f, w) 0 0 2 [(0, .ref (ad 40)), (1, ii_v ((q : Nat) : Int)), (2, ii_v ((k : Nat) : Int))] [] := by
    intro NN2
    induction NN2 with
    | zero => intro k hNN; exact absurd hNN (Nat.not_lt_zero _)
    | succ NN2 ih2 =>
      intro k hNN hk hnn
      refine a_iload_n C dX10_pickupOf_2 rfl ?_
      refine a_aload_n C dX10_pickupOf_3 rfl ?_
      refine a_get (ci := 11) (i := 37) (v := ii_v (f 40 37)) C iw_X10 rfl (by decide) rfl fl_X10_144 rfl rfl dX10_pickupOf_4 ?_
      refine a_top (w := ii_v ((S.length : Nat) : Int)) (congrArg (fun q => ii_v q) hc) ?_
      refine a_icmp_ge (tgt := 35) C dX10_pickupOf_7 rfl (by unfold ii_B; omega) (by unfold ii_B; omega) (fun h7 => ?_) (fun h7 => ?_)
      · skip
        refine a_aload_n C dX10_pickupOf_35 rfl ?_
        refine a_get (ci := 11) (i := 21) (v := .ref (ad 61)) C iw_X10 rfl (by decide) rfl fl_X10_70 rfl rfl dX10_pickupOf_36 ?_
        refine a_iload_n C dX10_pickupOf_39 rfl ?_
        refine a_iconst C dX10_pickupOf_40 ?_
        refine a_idiv C dX10_pickupOf_41 (by omega) (by omega) ?_
        refine a_iald (o := 61) (N := 31) (q / 2) C dX10_pickupOf_42 rfl (by omega) (by omega) (by decide) ?_
        refine a_top (w := ii_v (f 61 (q / 2))) rfl ?_
        refine a_top (w := ii_v (v 5 (q / 2))) (congrArg (fun q => ii_v q) (hv.2 (q / 2) (by omega)).2.2.2.1) ?_
        refine a_iret C ?_ (by decide) (by decide) dX10_pickupOf_43
        rw [hPost]
        exact ⟨rt_i (si_no (fun j h => hnn j (by omega))), rfl, rfl, rfl⟩
      · skip
        have q64 := hb64 k (by omega)
        refine a_aload_n C dX10_pickupOf_10 rfl ?_
        refine a_get (ci := 11) (i := 35) (v := .ref (ad 75)) C iw_X10 rfl (by decide) rfl fl_X10_102 rfl rfl dX10_pickupOf_11 ?_
        refine a_iload_n C dX10_pickupOf_14 rfl ?_
        refine a_iald (o := 75) (N := 8) k C dX10_pickupOf_15 rfl (by omega) (by omega) (by decide) ?_
        refine a_top (w := ii_v (f 75 k)) rfl ?_
        refine a_top (w := ii_v ((S.getD k 0 : Nat) : Int)) (congrArg (fun q => ii_v q) (hj k (by omega))) ?_
        refine a_iload_n C dX10_pickupOf_16 rfl ?_
        refine a_iconst C dX10_pickupOf_17 ?_
        refine a_isub C dX10_pickupOf_18 ?_
        refine a_icmp_ne (tgt := 29) C dX10_pickupOf_19 rfl (by unfold ii_B; omega) (by unfold ii_B; omega) (fun h19 => ?_) (fun h19 => ?_)
        · skip
          refine a_iinc (L' := [(0, .ref (ad 40)), (1, ii_v ((q : Nat) : Int)), (2, ii_v (((k : Nat) : Int) + 1))]) C dX10_pickupOf_29 rfl (by decide) rfl ?_
          refine a_goto (tgt := 2) C dX10_pickupOf_32 rfl ?_
          exact ih2 (k + 1) (by omega) (by omega) (lt_s hnn (fun z => h19 (by omega)))
        · skip
          refine a_aload_n C dX10_pickupOf_22 rfl ?_
          refine a_get (ci := 11) (i := 36) (v := .ref (ad 76)) C iw_X10 rfl (by decide) rfl fl_X10_105 rfl rfl dX10_pickupOf_23 ?_
          refine a_iload_n C dX10_pickupOf_26 rfl ?_
          refine a_iald (o := 76) (N := 8) k C dX10_pickupOf_27 rfl (by omega) (by omega) (by decide) ?_
          refine a_top (w := ii_v (f 76 k)) rfl ?_
          refine a_top (w := ii_v (T.getD k 0)) (congrArg (fun q => ii_v q) (hT k (by omega))) ?_
          refine a_iret C ?_ (by decide) (by decide) dX10_pickupOf_28
          rw [hPost]
          exact ⟨rt_i (si_yes (by omega) (by omega) hnn), rfl, rfl, rfl⟩
  exact loop2 (_ + 1) 0 (Nat.lt_succ_self _) (Nat.zero_le _) (fun j h => absurd h (Nat.not_lt_zero j))
set_option maxRecDepth 20000 in
set_option maxHeartbeats 2000000 in
theorem m_fault {l : Launch} {E : ab_E} {base : Nat} (hl : l.stackTraces = false) {ad : Nat → Nat} (f : Nat → Nat → Int) (w : Nat × Nat × Int64 × UInt64) (b : Nat) (hb : b < 4) {v : Nat → Nat → Int} (hv : pj_C f v) (hB : pk_B f b) {S : List Nat} (hS : tr_I f S) (hq : ∀ j, j < S.length → S.getD j 0 / 2 ≤ 30) (hnow : 0 ≤ f 40 32 ∧ f 40 32 ≤ 100000) (n : Nat) (hn : f 40 30 = (n : Int)) (hn30 : n ≤ 30) (hrid : ∀ r, r < n → (0 ≤ f 57 r ∧ f 57 r ≤ 6) ∧ st_ok (f 63 r) ∧ -1 ≤ f 60 r ∧ f 60 r ≤ 10)  : ab_M l E base yX10_fault cX10_fault 9 (some .int) 5 0 0 [.ref (ad 40), ii_v ((b : Nat) : Int)] ab_x4 ad (f, w) (ab_F ad w (fun r g => r = some (ii_v (pl_fault v S (f 44 b) (f 45 b) (f 40 32) (ab_n f b n) (f 41 b) (f 46 b) (f 47 b) (f 43 b))) ∧ (∀ j, j < S.length → g 76 j = (pl_tm v S (f 44 b) (f 45 b) (f 40 32)).getD j 0) ∧ ∀ o2, o2 ≠ 76 → g o2 = f o2)) := by
  obtain ⟨Post, hPost⟩ : ∃ P : ab_P, P = (ab_F ad w (fun r g => r = some (ii_v (pl_fault v S (f 44 b) (f 45 b) (f 40 32) (ab_n f b n) (f 41 b) (f 46 b) (f 47 b) (f 43 b))) ∧ (∀ j, j < S.length → g 76 j = (pl_tm v S (f 44 b) (f 45 b) (f 40 32)).getD j 0) ∧ ∀ o2, o2 ≠ 76 → g o2 = f o2)) := ⟨_, rfl⟩
  rw [← hPost]
  refine ab_of RX10 [(0, .ref (ad 40)), (1, ii_v ((b : Nat) : Int))] hl (by decide) rfl (Nat.le_of_ble_eq_true rfl) rfl ?_
  intro p e s m args below meth c C T0 hnm
  obtain ⟨hc, h8, hj, hb64⟩ := id hS
  obtain ⟨hB1, hB6, hB7, hB4, hB5, hB8⟩ := id hB
  refine a_aload_n C dX10_fault_0 rfl ?_
  refine a_iload_n C dX10_fault_1 rfl ?_
  refine a_callV (o := 40) (As := [ii_v ((b : Nat) : Int)]) C (m_runs hl f w b hb hv hB hS hq hnow) co_X10_runs in_X10 ml_X10_160 im_X10_runs se_X10_runs rfl rfl ar_X10_runs ⟨by decide, by decide, by decide, by decide⟩ rfl (Nat.le_of_ble_eq_true rfl) dX10_fault_2 (a_dF ?_) a_nF
  intro vg1 g1 hvg1
  obtain ⟨hr0, hTg1, hfg1⟩ := hvg1
  subst hr0
  obtain ⟨T, hTe⟩ : ∃ T, pl_tm v S (f 44 b) (f 45 b) (f 40 32) = T := ⟨_, rfl⟩
  rw [hTe] at hTg1
  have hTl : T.length = S.length := by rw [← hTe]; exact pl_tm_len v S (f 44 b) (f 45 b) (f 40 32)
  have hTb : ∀ j, j < S.length → 0 ≤ T.getD j 0 ∧ T.getD j 0 ≤ 200000 := fun j h => by rw [← hTe]; exact mt_b hv hB4 hB5 hB6 hB7 hnow hq h8 j h
  have hvp : pj_C g1 v := pj_same hv (fun o2 h => hfg1 o2 (by omega))
  have hLb := len_b hB6 hB7 (fun q h => (hv.1 q h).2.2) S (f 44 b) (f 45 b) hq hB4 hB5
  refine a_istore_n (L' := [(0, .ref (ad 40)), (1, ii_v ((b : Nat) : Int)), (2, ii_v (pl_len v (f 46 b) (f 47 b) S (f 44 b) (f 45 b)))]) C dX10_fault_5 (by decide) rfl ?_
  refine a_aload_n C dX10_fault_6 rfl ?_
  refine a_iload_n C dX10_fault_7 rfl ?_
  refine a_callV (o := 40) (As := [ii_v ((b : Nat) : Int)]) C (m_aboard hl g1 w b hb n (by rw [hfg1 _ (by decide)]; exact hn) hn30 (fun r hr => by rw [hfg1 57 (by decide), hfg1 63 (by decide), hfg1 60 (by decide)]; exact hrid r hr)) co_X10_aboard in_X10 ml_X10_163 im_X10_aboard se_X10_aboard rfl rfl ar_X10_aboard ⟨by decide, by decide, by decide, by decide⟩ rfl (Nat.le_of_ble_eq_true rfl) dX10_fault_8 (a_dR ?_) a_nR
  rw [ab_same (hfg1 57 (by decide)) (hfg1 63 (by decide)) (hfg1 60 (by decide)) b n]
  have hab := ab_b (b := b) hrid n (Nat.le_refl _)
  refine a_istore_n (L' := [(0, .ref (ad 40)), (1, ii_v ((b : Nat) : Int)), (2, ii_v (pl_len v (f 46 b) (f 47 b) S (f 44 b) (f 45 b))), (3, ii_v (ab_n f b n))]) C dX10_fault_11 (by decide) rfl ?_
  refine a_aload_n C dX10_fault_12 rfl ?_
  refine a_get (ci := 11) (i := 37) (v := ii_v (g1 40 37)) C iw_X10 rfl (by decide) rfl fl_X10_144 rfl rfl dX10_fault_13 ?_
  refine a_top (w := ii_v ((S.length : Nat) : Int)) (congrArg (fun q => ii_v q) ((congrFun (hfg1 40 (by decide)) 37).trans hc)) ?_
  refine a_bipush C dX10_fault_16 (by decide) ?_
  refine a_icmp_le (tgt := 25) C dX10_fault_18 rfl (by unfold ii_B; omega) (by unfold ii_B; omega) (fun h18 => ?_) (fun h18 => ?_)
  · skip
    refine a_iconst C dX10_fault_25 ?_
    refine a_top (w := ii_v (if (decide (6 < S.length)) = true then 1 else 0)) (by first | exact bt_1 (by first | exact decide_eq_true (by omega) | simp_all) | exact bt_0 (by first | exact decide_eq_false (by omega) | simp_all)) ?_
    refine a_istore (L' := [(0, .ref (ad 40)), (1, ii_v ((b : Nat) : Int)), (2, ii_v (pl_len v (f 46 b) (f 47 b) S (f 44 b) (f 45 b))), (3, ii_v (ab_n f b n)), (4, ii_v (if (decide (6 < S.length)) = true then 1 else 0))]) C dX10_fault_26 (by decide) rfl ?_
    refine a_iconst C dX10_fault_28 ?_
    refine a_istore (L' := [(0, .ref (ad 40)), (1, ii_v ((b : Nat) : Int)), (2, ii_v (pl_len v (f 46 b) (f 47 b) S (f 44 b) (f 45 b))), (3, ii_v (ab_n f b n)), (4, ii_v (if (decide (6 < S.length)) = true then 1 else 0)), (5, ii_v 0)]) C dX10_fault_29 (by decide) rfl ?_
    refine a_iconst C dX10_fault_31 ?_
    refine a_istore (L' := [(0, .ref (ad 40)), (1, ii_v ((b : Nat) : Int)), (2, ii_v (pl_len v (f 46 b) (f 47 b) S (f 44 b) (f 45 b))), (3, ii_v (ab_n f b n)), (4, ii_v (if (decide (6 < S.length)) = true then 1 else 0)), (5, ii_v 0), (6, ii_v 0)]) C dX10_fault_32 (by decide) rfl ?_
    refine a_iconst C dX10_fault_34 ?_
    refine a_istore (L' := [(0, .ref (ad 40)), (1, ii_v ((b : Nat) : Int)), (2, ii_v (pl_len v (f 46 b) (f 47 b) S (f 44 b) (f 45 b))), (3, ii_v (ab_n f b n)), (4, ii_v (if (decide (6 < S.length)) = true then 1 else 0)), (5, ii_v 0), (6, ii_v 0), (7, ii_v 0)]) C dX10_fault_35 (by decide) rfl ?_
    have loop37 : ∀ (NN37 : Nat) (k : Nat) (ri : Int) (A : Bool) (B : Bool) (D : Bool), S.length - k < NN37 → (k ≤ S.length) → (0 - 6 * (k : Int) ≤ ri ∧ ri ≤ 180 + 6 * (k : Int)) → ((A || pl_seat v (f 41 b) (S.drop k) ri) = (decide (6 < S.length) || pl_seat v (f 41 b) S (ab_n f b n))) → ((B || pl_late v (S.drop k) (T.drop k)) = pl_late v S T) → ((D || pl_long v S T (S.drop k) (T.drop k)) = pl_long v S T S T) → ab_W p l e (ab_rm 5 0 0) s m args below meth c E base 9 (ab_Q below E base Post args s 0 0) ab_x4 ad (g1, w) 0 0 37 [(0, .ref (ad 40)), (1, ii_v ((b : Nat) : Int)), (2, ii_v (pl_len v (f 46 b) (f 47 b) S (f 44 b) (f 45 b))), (3, ii_v ri), (4, ii_v (if A = true then 1 else 0)), (5, ii_v (if B = true then 1 else 0)), (6, ii_v (if D = true then 1 else 0)), (7, ii_v ((k : Nat) : Int))] [] := by
      intro NN37
      induction NN37 with
      | zero => intro k ri A B D hNN; exact absurd hNN (Nat.not_lt_zero _)
      | succ NN37 ih37 =>
        intro k ri A B D hNN hk hri hA hBb hDd
        refine a_iload C dX10_fault_37 rfl ?_
        refine a_aload_n C dX10_fault_39 rfl ?_
        refine a_get (ci := 11) (i := 37) (v := ii_v (g1 40 37)) C iw_X10 rfl (by decide) rfl fl_X10_144 rfl rfl dX10_fault_40 ?_
        refine a_top (w := ii_v ((S.length : Nat) : Int)) (congrArg (fun q => ii_v q) ((congrFun (hfg1 40 (by decide)) 37).trans hc)) ?_
        refine a_icmp_ge (tgt := 209) C dX10_fault_43 rfl (by unfold ii_B; omega) (by unfold ii_B; omega) (fun h43 => ?_) (fun h43 => ?_)
        · skip
          refine a_iload C dX10_fault_209 rfl ?_
          refine a_bif_eq (tgt := 218) C dX10_fault_211 rfl (fun h211 => ?_) (fun h211 => ?_)
          · skip
            refine a_iload C dX10_fault_218 rfl ?_
            refine a_bif_eq (tgt := 227) C dX10_fault_220 rfl (fun h220 => ?_) (fun h220 => ?_)
            · skip
              refine a_iload C dX10_fault_227 rfl ?_
              refine a_bif_eq (tgt := 236) C dX10_fault_229 rfl (fun h229 => ?_) (fun h229 => ?_)
              · skip
                refine a_iload_n C dX10_fault_236 rfl ?_
                refine a_aload_n C dX10_fault_237 rfl ?_
                refine a_get (ci := 11) (i := 3) (v := .ref (ad 43)) C iw_X10 rfl (by decide) rfl fl_X10_16 rfl rfl dX10_fault_238 ?_
                refine a_iload_n C dX10_fault_241 rfl ?_
                refine a_iald (o := 43) (N := 4) b C dX10_fault_242 rfl (by omega) (by omega) (by decide) ?_
                refine a_top (w := ii_v (g1 43 b)) rfl ?_
                refine a_top (w := ii_v (f 43 b)) (congrArg (fun q => ii_v q) (congrFun (hfg1 43 (by decide)) _)) ?_
                refine a_icmp_le (tgt := 250) C dX10_fault_243 rfl (by unfold ii_B; omega) (by unfold ii_B; omega) (fun h243 => ?_) (fun h243 => ?_)
                · skip
                  refine a_iconst C dX10_fault_250 ?_
                  refine a_iret C ?_ (by decide) (by decide) dX10_fault_251
                  rw [hPost]
                  rw [List.drop_eq_nil_of_le (by omega)] at hA hBb hDd
                  rw [show pl_seat v (f 41 b) [] ri = false from rfl, Bool.or_false] at hA
                  rw [show pl_late v [] (T.drop k) = false from rfl, Bool.or_false] at hBb
                  rw [show pl_long v S T [] (T.drop k) = false from rfl, Bool.or_false] at hDd
                  have hA2 := fl_A hA
                  skip
                  refine ab_F_of ⟨rt_j ?_, by rw [hTe]; exact hTg1, hfg1⟩
                  unfold pl_fault
                  rw [hTe, ← hBb, ← hDd]
                  rw [if_neg (fun z => (by assumption : ¬ A = true) (hA2.mpr z)), if_neg (by assumption : ¬ B = true), if_neg (by assumption : ¬ D = true)]; first | rw [if_pos (by omega)] | rw [if_neg (by omega)]
                · skip
                  refine a_iconst C dX10_fault_246 ?_
                  refine a_goto (tgt := 251) C dX10_fault_247 rfl ?_
                  refine a_iret C ?_ (by decide) (by decide) dX10_fault_251
                  rw [hPost]
                  rw [List.drop_eq_nil_of_le (by omega)] at hA hBb hDd
                  rw [show pl_seat v (f 41 b) [] ri = false from rfl, Bool.or_false] at hA
                  rw [show pl_late v [] (T.drop k) = false from rfl, Bool.or_false] at hBb
                  rw [show pl_long v S T [] (T.drop k) = false from rfl, Bool.or_false] at hDd
                  have hA2 := fl_A hA
                  skip
                  refine ab_F_of ⟨rt_j ?_, by rw [hTe]; exact hTg1, hfg1⟩
                  unfold pl_fault
                  rw [hTe, ← hBb, ← hDd]
                  rw [if_neg (fun z => (by assumption : ¬ A = true) (hA2.mpr z)), if_neg (by assumption : ¬ B = true), if_neg (by assumption : ¬ D = true)]; first | rw [if_pos (by omega)] | rw [if_neg (by omega)]
              · skip
                refine a_iconst C dX10_fault_232 ?_
                refine a_goto (tgt := 251) C dX10_fault_233 rfl ?_
                refine a_iret C ?_ (by decide) (by decide) dX10_fault_251
                rw [hPost]
                rw [List.drop_eq_nil_of_le (by omega)] at hA hBb hDd
                rw [show pl_seat v (f 41 b) [] ri = false from rfl, Bool.or_false] at hA
                rw [show pl_late v [] (T.drop k) = false from rfl, Bool.or_false] at hBb
                rw [show pl_long v S T [] (T.drop k) = false from rfl, Bool.or_false] at hDd
                have hA2 := fl_A hA
                skip
                refine ab_F_of ⟨rt_j ?_, by rw [hTe]; exact hTg1, hfg1⟩
                unfold pl_fault
                rw [hTe, ← hBb, ← hDd]
                rw [if_neg (fun z => (by assumption : ¬ A = true) (hA2.mpr z)), if_neg (by assumption), if_pos (by assumption)]
            · skip
              refine a_iconst C dX10_fault_223 ?_
              refine a_goto (tgt := 251) C dX10_fault_224 rfl ?_
              refine a_iret C ?_ (by decide) (by decide) dX10_fault_251
              rw [hPost]
              rw [List.drop_eq_nil_of_le (by omega)] at hA hBb hDd
              rw [show pl_seat v (f 41 b) [] ri = false from rfl, Bool.or_false] at hA
              rw [show pl_late v [] (T.drop k) = false from rfl, Bool.or_false] at hBb
              rw [show pl_long v S T [] (T.drop k) = false from rfl, Bool.or_false] at hDd
              have hA2 := fl_A hA
              skip
              refine ab_F_of ⟨rt_j ?_, by rw [hTe]; exact hTg1, hfg1⟩
              unfold pl_fault
              rw [hTe, ← hBb, ← hDd]
              rw [if_neg (fun z => (by assumption : ¬ A = true) (hA2.mpr z)), if_pos (by assumption)]
          · skip
            refine a_iconst C dX10_fault_214 ?_
            refine a_goto (tgt := 251) C dX10_fault_215 rfl ?_
            refine a_iret C ?_ (by decide) (by decide) dX10_fault_251
            rw [hPost]
            rw [List.drop_eq_nil_of_le (by omega)] at hA hBb hDd
            rw [show pl_seat v (f 41 b) [] ri = false from rfl, Bool.or_false] at hA
            rw [show pl_late v [] (T.drop k) = false from rfl, Bool.or_false] at hBb
            rw [show pl_long v S T [] (T.drop k) = false from rfl, Bool.or_false] at hDd
            have hA2 := fl_A hA
            skip
            refine ab_F_of ⟨rt_j ?_, by rw [hTe]; exact hTg1, hfg1⟩
            unfold pl_fault
            rw [hTe, ← hBb, ← hDd]
            rw [if_pos (hA2.mp (by assumption))]
        · skip
          have q1 := hq k (by omega)
          have qr := hv.2 _ q1
          have q64 := hb64 k (by omega)
          have qt := hTb k (by omega)
          have qmv := pl_mv_b (v := v) (q := (S.getD k 0)) qr.2.2.2.2.1
          refine a_aload_n C dX10_fault_46 rfl ?_
          refine a_get (ci := 11) (i := 35) (v := .ref (ad 75)) C iw_X10 rfl (by decide) rfl fl_X10_102 rfl rfl dX10_fault_47 ?_
          refine a_iload C dX10_fault_50 rfl ?_
          refine a_iald (o := 75) (N := 8) k C dX10_fault_52 rfl (by omega) (by omega) (by decide) ?_
          refine a_top (w := ii_v (g1 75 k)) rfl ?_
          refine a_top (w := ii_v ((S.getD k 0 : Nat) : Int)) (congrArg (fun q => ii_v q) ((congrFun (hfg1 75 (by decide)) _).trans (hj k (by omega)))) ?_
          refine a_iconst C dX10_fault_53 ?_
          refine a_idiv C dX10_fault_54 (by omega) (by omega) ?_
          refine a_istore (L' := [(0, .ref (ad 40)), (1, ii_v ((b : Nat) : Int)), (2, ii_v (pl_len v (f 46 b) (f 47 b) S (f 44 b) (f 45 b))), (3, ii_v ri), (4, ii_v (if A = true then 1 else 0)), (5, ii_v (if B = true then 1 else 0)), (6, ii_v (if D = true then 1 else 0)), (7, ii_v ((k : Nat) : Int)), (8, ii_v ((((S.getD k 0) : Nat) : Int) / 2))]) C dX10_fault_55 (by decide) rfl ?_
          refine a_iload_n C dX10_fault_57 rfl ?_
          refine a_aload_n C dX10_fault_58 rfl ?_
          refine a_get (ci := 11) (i := 35) (v := .ref (ad 75)) C iw_X10 rfl (by decide) rfl fl_X10_102 rfl rfl dX10_fault_59 ?_
          refine a_iload C dX10_fault_62 rfl ?_
          refine a_iald (o := 75) (N := 8) k C dX10_fault_64 rfl (by omega) (by omega) (by decide) ?_
          refine a_top (w := ii_v (g1 75 k)) rfl ?_
          refine a_top (w := ii_v ((S.getD k 0 : Nat) : Int)) (congrArg (fun q => ii_v q) ((congrFun (hfg1 75 (by decide)) _).trans (hj k (by omega)))) ?_
          refine a_callS (As := [ii_v (((S.getD k 0) : Nat) : Int)]) C (m_isDrop hl g1 w (S.getD k 0) (by omega)) co_X10_isDrop in_X10 ml_X10_135 sc_X10_isDrop ar_X10_isDrop ⟨by decide, by decide, by decide, by decide⟩ rfl (Nat.le_of_ble_eq_true rfl) dX10_fault_65 (a_dR ?_) a_nR
          rw [md_iff (P := (S.getD k 0) % 2 = 0)]
          refine a_bif_eq (tgt := 82) C dX10_fault_68 rfl (fun h68 => ?_) (fun h68 => ?_)
          · skip
            have hpar : (S.getD k 0) % 2 = 0 := Classical.byContradiction h68
            refine a_aload_n C dX10_fault_82 rfl ?_
            refine a_get (ci := 11) (i := 17) (v := .ref (ad 57)) C iw_X10 rfl (by decide) rfl fl_X10_58 rfl rfl dX10_fault_83 ?_
            refine a_iload C dX10_fault_86 rfl ?_
            refine a_iald (o := 57) (N := 31) ((S.getD k 0) / 2) C dX10_fault_88 rfl (by omega) (by omega) (by decide) ?_
            refine a_top (w := ii_v (g1 57 ((S.getD k 0) / 2))) rfl ?_
            refine a_top (w := ii_v (v 2 ((S.getD k 0) / 2))) (congrArg (fun q => ii_v q) ((congrFun (hfg1 57 (by decide)) _).trans (hv.2 ((S.getD k 0) / 2) (by omega)).1)) ?_
            refine a_iadd C dX10_fault_89 ?_
            refine a_top (w := ii_v (ri + pl_mv v (S.getD k 0))) (by unfold pl_mv; first | rw [if_pos hpar] | rw [if_neg hpar]) ?_
            refine a_istore_n (L' := [(0, .ref (ad 40)), (1, ii_v ((b : Nat) : Int)), (2, ii_v (pl_len v (f 46 b) (f 47 b) S (f 44 b) (f 45 b))), (3, ii_v (ri + pl_mv v (S.getD k 0))), (4, ii_v (if A = true then 1 else 0)), (5, ii_v (if B = true then 1 else 0)), (6, ii_v (if D = true then 1 else 0)), (7, ii_v ((k : Nat) : Int)), (8, ii_v ((((S.getD k 0) : Nat) : Int) / 2))]) C dX10_fault_90 (by decide) rfl ?_
            refine a_iload C dX10_fault_91 rfl ?_
            refine a_iload_n C dX10_fault_93 rfl ?_
            refine a_aload_n C dX10_fault_94 rfl ?_
            refine a_get (ci := 11) (i := 1) (v := .ref (ad 41)) C iw_X10 rfl (by decide) rfl fl_X10_9 rfl rfl dX10_fault_95 ?_
            refine a_iload_n C dX10_fault_98 rfl ?_
            refine a_iald (o := 41) (N := 4) b C dX10_fault_99 rfl (by omega) (by omega) (by decide) ?_
            refine a_top (w := ii_v (g1 41 b)) rfl ?_
            refine a_top (w := ii_v (f 41 b)) (congrArg (fun q => ii_v q) (congrFun (hfg1 41 (by decide)) _)) ?_
            refine a_icmp_le (tgt := 107) C dX10_fault_100 rfl (by unfold ii_B; omega) (by unfold ii_B; omega) (fun h100 => ?_) (fun h100 => ?_)
            · skip
              refine a_iconst C dX10_fault_107 ?_
              refine a_top (w := ii_v (if (decide (f 41 b < ri + pl_mv v (S.getD k 0))) = true then 1 else 0)) (by first | exact bt_1 (by first | exact decide_eq_true (by omega) | simp_all) | exact bt_0 (by first | exact decide_eq_false (by omega) | simp_all)) ?_
              refine a_ior (b := (if (A || (decide (f 41 b < ri + pl_mv v (S.getD k 0)))) = true then 1 else 0)) C dX10_fault_108 (ii_or _ _) ?_
              refine a_istore (L' := [(0, .ref (ad 40)), (1, ii_v ((b : Nat) : Int)), (2, ii_v (pl_len v (f 46 b) (f 47 b) S (f 44 b) (f 45 b))), (3, ii_v (ri + pl_mv v (S.getD k 0))), (4, ii_v (if (A || (decide (f 41 b < ri + pl_mv v (S.getD k 0)))) = true then 1 else 0)), (5, ii_v (if B = true then 1 else 0)), (6, ii_v (if D = true then 1 else 0)), (7, ii_v ((k : Nat) : Int)), (8, ii_v ((((S.getD k 0) : Nat) : Int) / 2))]) C dX10_fault_109 (by decide) rfl ?_
              refine a_iload C dX10_fault_111 rfl ?_
              refine a_aload_n C dX10_fault_113 rfl ?_
              refine a_get (ci := 11) (i := 35) (v := .ref (ad 75)) C iw_X10 rfl (by decide) rfl fl_X10_102 rfl rfl dX10_fault_114 ?_
              refine a_iload C dX10_fault_117 rfl ?_
              refine a_iald (o := 75) (N := 8) k C dX10_fault_119 rfl (by omega) (by omega) (by decide) ?_
              refine a_top (w := ii_v (g1 75 k)) rfl ?_
              refine a_top (w := ii_v ((S.getD k 0 : Nat) : Int)) (congrArg (fun q => ii_v q) ((congrFun (hfg1 75 (by decide)) _).trans (hj k (by omega)))) ?_
              refine a_callS (As := [ii_v (((S.getD k 0) : Nat) : Int)]) C (m_isDrop hl g1 w (S.getD k 0) (by omega)) co_X10_isDrop in_X10 ml_X10_135 sc_X10_isDrop ar_X10_isDrop ⟨by decide, by decide, by decide, by decide⟩ rfl (Nat.le_of_ble_eq_true rfl) dX10_fault_120 (a_dR ?_) a_nR
              rw [md_iff (P := (S.getD k 0) % 2 = 0)]
              refine a_bif_ne (tgt := 147) C dX10_fault_123 rfl (fun h123 => ?_) (fun h123 => ?_)
              · skip
                exact absurd hpar h123
              · skip
                refine a_aload_n C dX10_fault_126 rfl ?_
                refine a_get (ci := 11) (i := 36) (v := .ref (ad 76)) C iw_X10 rfl (by decide) rfl fl_X10_105 rfl rfl dX10_fault_127 ?_
                refine a_iload C dX10_fault_130 rfl ?_
                refine a_iald (o := 76) (N := 8) k C dX10_fault_132 rfl (by omega) (by omega) (by decide) ?_
                refine a_top (w := ii_v (g1 76 k)) rfl ?_
                refine a_top (w := ii_v (T.getD k 0)) (congrArg (fun q => ii_v q) (hTg1 k (by omega))) ?_
                refine a_aload_n C dX10_fault_133 rfl ?_
                refine a_get (ci := 11) (i := 18) (v := .ref (ad 58)) C iw_X10 rfl (by decide) rfl fl_X10_61 rfl rfl dX10_fault_134 ?_
                refine a_iload C dX10_fault_137 rfl ?_
                refine a_iald (o := 58) (N := 31) ((S.getD k 0) / 2) C dX10_fault_139 rfl (by omega) (by omega) (by decide) ?_
                refine a_top (w := ii_v (g1 58 ((S.getD k 0) / 2))) rfl ?_
                refine a_top (w := ii_v (v 3 ((S.getD k 0) / 2))) (congrArg (fun q => ii_v q) ((congrFun (hfg1 58 (by decide)) _).trans (hv.2 ((S.getD k 0) / 2) (by omega)).2.1)) ?_
                refine a_icmp_le (tgt := 147) C dX10_fault_140 rfl (by unfold ii_B; omega) (by unfold ii_B; omega) (fun h140 => ?_) (fun h140 => ?_)
                · skip
                  refine a_iconst C dX10_fault_147 ?_
                  refine a_top (w := ii_v (if (decide ((S.getD k 0) % 2 = 0) && decide (v 3 ((S.getD k 0) / 2) < T.getD k 0)) = true then 1 else 0)) (by first | exact bt_1 (by rw [decide_eq_true (p := (S.getD k 0) % 2 = 0) hpar, decide_eq_true (p := v 3 ((S.getD k 0) / 2) < T.getD k 0) (by omega)]; rfl) | exact bt_0 (by rw [decide_eq_true (p := (S.getD k 0) % 2 = 0) hpar, decide_eq_false (p := v 3 ((S.getD k 0) / 2) < T.getD k 0) (by omega)]; rfl) | exact bt_0 (by rw [decide_eq_false (p := (S.getD k 0) % 2 = 0) hpar]; rfl)) ?_
                  refine a_ior (b := (if (B || (decide ((S.getD k 0) % 2 = 0) && decide (v 3 ((S.getD k 0) / 2) < T.getD k 0))) = true then 1 else 0)) C dX10_fault_148 (ii_or _ _) ?_
                  refine a_istore (L' := [(0, .ref (ad 40)), (1, ii_v ((b : Nat) : Int)), (2, ii_v (pl_len v (f 46 b) (f 47 b) S (f 44 b) (f 45 b))), (3, ii_v (ri + pl_mv v (S.getD k 0))), (4, ii_v (if (A || (decide (f 41 b < ri + pl_mv v (S.getD k 0)))) = true then 1 else 0)), (5, ii_v (if (B || (decide ((S.getD k 0) % 2 = 0) && decide (v 3 ((S.getD k 0) / 2) < T.getD k 0))) = true then 1 else 0)), (6, ii_v (if D = true then 1 else 0)), (7, ii_v ((k : Nat) : Int)), (8, ii_v ((((S.getD k 0) : Nat) : Int) / 2))]) C dX10_fault_149 (by decide) rfl ?_
                  refine a_iload C dX10_fault_151 rfl ?_
                  refine a_aload_n C dX10_fault_153 rfl ?_
                  refine a_get (ci := 11) (i := 35) (v := .ref (ad 75)) C iw_X10 rfl (by decide) rfl fl_X10_102 rfl rfl dX10_fault_154 ?_
                  refine a_iload C dX10_fault_157 rfl ?_
                  refine a_iald (o := 75) (N := 8) k C dX10_fault_159 rfl (by omega) (by omega) (by decide) ?_
                  refine a_top (w := ii_v (g1 75 k)) rfl ?_
                  refine a_top (w := ii_v ((S.getD k 0 : Nat) : Int)) (congrArg (fun q => ii_v q) ((congrFun (hfg1 75 (by decide)) _).trans (hj k (by omega)))) ?_
                  refine a_callS (As := [ii_v (((S.getD k 0) : Nat) : Int)]) C (m_isDrop hl g1 w (S.getD k 0) (by omega)) co_X10_isDrop in_X10 ml_X10_135 sc_X10_isDrop ar_X10_isDrop ⟨by decide, by decide, by decide, by decide⟩ rfl (Nat.le_of_ble_eq_true rfl) dX10_fault_160 (a_dR ?_) a_nR
                  rw [md_iff (P := (S.getD k 0) % 2 = 0)]
                  refine a_bif_eq (tgt := 199) C dX10_fault_163 rfl (fun h163 => ?_) (fun h163 => ?_)
                  · skip
                    refine a_iconst C dX10_fault_199 ?_
                    refine a_top (w := ii_v (if (!decide ((S.getD k 0) % 2 = 0) && decide (v 4 ((S.getD k 0) / 2) < T.getD k 0 - pl_since v S T (S.getD k 0))) = true then 1 else 0)) (by first | exact bt_0 (by rw [decide_eq_true (p := (S.getD k 0) % 2 = 0) hpar]; rfl) | exact bt_1 (by rw [decide_eq_false (p := (S.getD k 0) % 2 = 0) hpar, decide_eq_true (p := v 4 ((S.getD k 0) / 2) < T.getD k 0 - pl_since v S T (S.getD k 0)) (by omega)]; rfl) | exact bt_0 (by rw [decide_eq_false (p := (S.getD k 0) % 2 = 0) hpar, decide_eq_false (p := v 4 ((S.getD k 0) / 2) < T.getD k 0 - pl_since v S T (S.getD k 0)) (by omega)]; rfl)) ?_
                    refine a_ior (b := (if (D || (!decide ((S.getD k 0) % 2 = 0) && decide (v 4 ((S.getD k 0) / 2) < T.getD k 0 - pl_since v S T (S.getD k 0)))) = true then 1 else 0)) C dX10_fault_200 (ii_or _ _) ?_
                    refine a_istore (L' := [(0, .ref (ad 40)), (1, ii_v ((b : Nat) : Int)), (2, ii_v (pl_len v (f 46 b) (f 47 b) S (f 44 b) (f 45 b))), (3, ii_v (ri + pl_mv v (S.getD k 0))), (4, ii_v (if (A || (decide (f 41 b < ri + pl_mv v (S.getD k 0)))) = true then 1 else 0)), (5, ii_v (if (B || (decide ((S.getD k 0) % 2 = 0) && decide (v 3 ((S.getD k 0) / 2) < T.getD k 0))) = true then 1 else 0)), (6, ii_v (if (D || (!decide ((S.getD k 0) % 2 = 0) && decide (v 4 ((S.getD k 0) / 2) < T.getD k 0 - pl_since v S T (S.getD k 0)))) = true then 1 else 0)), (7, ii_v ((k : Nat) : Int)), (8, ii_v ((((S.getD k 0) : Nat) : Int) / 2))]) C dX10_fault_201 (by decide) rfl ?_
                    refine a_iinc (L' := [(0, .ref (ad 40)), (1, ii_v ((b : Nat) : Int)), (2, ii_v (pl_len v (f 46 b) (f 47 b) S (f 44 b) (f 45 b))), (3, ii_v (ri + pl_mv v (S.getD k 0))), (4, ii_v (if (A || (decide (f 41 b < ri + pl_mv v (S.getD k 0)))) = true then 1 else 0)), (5, ii_v (if (B || (decide ((S.getD k 0) % 2 = 0) && decide (v 3 ((S.getD k 0) / 2) < T.getD k 0))) = true then 1 else 0)), (6, ii_v (if (D || (!decide ((S.getD k 0) % 2 = 0) && decide (v 4 ((S.getD k 0) / 2) < T.getD k 0 - pl_since v S T (S.getD k 0)))) = true then 1 else 0)), (7, ii_v (((k : Nat) : Int) + 1)), (8, ii_v ((((S.getD k 0) : Nat) : Int) / 2))]) C dX10_fault_203 rfl (by decide) rfl ?_
                    refine a_goto (tgt := 37) C dX10_fault_206 rfl ?_
                    refine a_pick [0, 1, 2, 3, 4, 5, 6, 7] (L2 := [(0, .ref (ad 40)), (1, ii_v ((b : Nat) : Int)), (2, ii_v (pl_len v (f 46 b) (f 47 b) S (f 44 b) (f 45 b))), (3, ii_v (ri + pl_mv v (S.getD k 0))), (4, ii_v (if (A || (decide (f 41 b < ri + pl_mv v (S.getD k 0)))) = true then 1 else 0)), (5, ii_v (if (B || (decide ((S.getD k 0) % 2 = 0) && decide (v 3 ((S.getD k 0) / 2) < T.getD k 0))) = true then 1 else 0)), (6, ii_v (if (D || (!decide ((S.getD k 0) % 2 = 0) && decide (v 4 ((S.getD k 0) / 2) < T.getD k 0 - pl_since v S T (S.getD k 0)))) = true then 1 else 0)), (7, ii_v (((k : Nat) : Int) + 1))]) rfl ?_
                    exact ih37 (k + 1) (ri + pl_mv v (S.getD k 0)) (A || (decide (f 41 b < ri + pl_mv v (S.getD k 0)))) (B || (decide ((S.getD k 0) % 2 = 0) && decide (v 3 ((S.getD k 0) / 2) < T.getD k 0))) (D || (!decide ((S.getD k 0) % 2 = 0) && decide (v 4 ((S.getD k 0) / 2) < T.getD k 0 - pl_since v S T (S.getD k 0)))) (by omega) (by omega) (by omega) (by rw [← hA, ls_drop (k := k) (by omega), pl_seat, Bool.or_assoc]) (by rw [← hBb, ls_drop (k := k) (by omega), lt_drop (k := k) (by omega), pl_late, Bool.or_assoc]) (by rw [← hDd, ls_drop (k := k) (by omega), lt_drop (k := k) (by omega), pl_long, Bool.or_assoc])
                  · skip
                    exact absurd hpar h163
                · skip
                  refine a_iconst C dX10_fault_143 ?_
                  refine a_goto (tgt := 148) C dX10_fault_144 rfl ?_
                  refine a_top (w := ii_v (if (decide ((S.getD k 0) % 2 = 0) && decide (v 3 ((S.getD k 0) / 2) < T.getD k 0)) = true then 1 else 0)) (by first | exact bt_1 (by rw [decide_eq_true (p := (S.getD k 0) % 2 = 0) hpar, decide_eq_true (p := v 3 ((S.getD k 0) / 2) < T.getD k 0) (by omega)]; rfl) | exact bt_0 (by rw [decide_eq_true (p := (S.getD k 0) % 2 = 0) hpar, decide_eq_false (p := v 3 ((S.getD k 0) / 2) < T.getD k 0) (by omega)]; rfl) | exact bt_0 (by rw [decide_eq_false (p := (S.getD k 0) % 2 = 0) hpar]; rfl)) ?_
                  refine a_ior (b := (if (B || (decide ((S.getD k 0) % 2 = 0) && decide (v 3 ((S.getD k 0) / 2) < T.getD k 0))) = true then 1 else 0)) C dX10_fault_148 (ii_or _ _) ?_
                  refine a_istore (L' := [(0, .ref (ad 40)), (1, ii_v ((b : Nat) : Int)), (2, ii_v (pl_len v (f 46 b) (f 47 b) S (f 44 b) (f 45 b))), (3, ii_v (ri + pl_mv v (S.getD k 0))), (4, ii_v (if (A || (decide (f 41 b < ri + pl_mv v (S.getD k 0)))) = true then 1 else 0)), (5, ii_v (if (B || (decide ((S.getD k 0) % 2 = 0) && decide (v 3 ((S.getD k 0) / 2) < T.getD k 0))) = true then 1 else 0)), (6, ii_v (if D = true then 1 else 0)), (7, ii_v ((k : Nat) : Int)), (8, ii_v ((((S.getD k 0) : Nat) : Int) / 2))]) C dX10_fault_149 (by decide) rfl ?_
                  refine a_iload C dX10_fault_151 rfl ?_
                  refine a_aload_n C dX10_fault_153 rfl ?_
                  refine a_get (ci := 11) (i := 35) (v := .ref (ad 75)) C iw_X10 rfl (by decide) rfl fl_X10_102 rfl rfl dX10_fault_154 ?_
                  refine a_iload C dX10_fault_157 rfl ?_
                  refine a_iald (o := 75) (N := 8) k C dX10_fault_159 rfl (by omega) (by omega) (by decide) ?_
                  refine a_top (w := ii_v (g1 75 k)) rfl ?_
                  refine a_top (w := ii_v ((S.getD k 0 : Nat) : Int)) (congrArg (fun q => ii_v q) ((congrFun (hfg1 75 (by decide)) _).trans (hj k (by omega)))) ?_
                  refine a_callS (As := [ii_v (((S.getD k 0) : Nat) : Int)]) C (m_isDrop hl g1 w (S.getD k 0) (by omega)) co_X10_isDrop in_X10 ml_X10_135 sc_X10_isDrop ar_X10_isDrop ⟨by decide, by decide, by decide, by decide⟩ rfl (Nat.le_of_ble_eq_true rfl) dX10_fault_160 (a_dR ?_) a_nR
                  rw [md_iff (P := (S.getD k 0) % 2 = 0)]
                  refine a_bif_eq (tgt := 199) C dX10_fault_163 rfl (fun h163 => ?_) (fun h163 => ?_)
                  · skip
                    refine a_iconst C dX10_fault_199 ?_
                    refine a_top (w := ii_v (if (!decide ((S.getD k 0) % 2 = 0) && decide (v 4 ((S.getD k 0) / 2) < T.getD k 0 - pl_since v S T (S.getD k 0))) = true then 1 else 0)) (by first | exact bt_0 (by rw [decide_eq_true (p := (S.getD k 0) % 2 = 0) hpar]; rfl) | exact bt_1 (by rw [decide_eq_false (p := (S.getD k 0) % 2 = 0) hpar, decide_eq_true (p := v 4 ((S.getD k 0) / 2) < T.getD k 0 - pl_since v S T (S.getD k 0)) (by omega)]; rfl) | exact bt_0 (by rw [decide_eq_false (p := (S.getD k 0) % 2 = 0) hpar, decide_eq_false (p := v 4 ((S.getD k 0) / 2) < T.getD k 0 - pl_since v S T (S.getD k 0)) (by omega)]; rfl)) ?_
                    refine a_ior (b := (if (D || (!decide ((S.getD k 0) % 2 = 0) && decide (v 4 ((S.getD k 0) / 2) < T.getD k 0 - pl_since v S T (S.getD k 0)))) = true then 1 else 0)) C dX10_fault_200 (ii_or _ _) ?_
                    refine a_istore (L' := [(0, .ref (ad 40)), (1, ii_v ((b : Nat) : Int)), (2, ii_v (pl_len v (f 46 b) (f 47 b) S (f 44 b) (f 45 b))), (3, ii_v (ri + pl_mv v (S.getD k 0))), (4, ii_v (if (A || (decide (f 41 b < ri + pl_mv v (S.getD k 0)))) = true then 1 else 0)), (5, ii_v (if (B || (decide ((S.getD k 0) % 2 = 0) && decide (v 3 ((S.getD k 0) / 2) < T.getD k 0))) = true then 1 else 0)), (6, ii_v (if (D || (!decide ((S.getD k 0) % 2 = 0) && decide (v 4 ((S.getD k 0) / 2) < T.getD k 0 - pl_since v S T (S.getD k 0)))) = true then 1 else 0)), (7, ii_v ((k : Nat) : Int)), (8, ii_v ((((S.getD k 0) : Nat) : Int) / 2))]) C dX10_fault_201 (by decide) rfl ?_
                    refine a_iinc (L' := [(0, .ref (ad 40)), (1, ii_v ((b : Nat) : Int)), (2, ii_v (pl_len v (f 46 b) (f 47 b) S (f 44 b) (f 45 b))), (3, ii_v (ri + pl_mv v (S.getD k 0))), (4, ii_v (if (A || (decide (f 41 b < ri + pl_mv v (S.getD k 0)))) = true then 1 else 0)), (5, ii_v (if (B || (decide ((S.getD k 0) % 2 = 0) && decide (v 3 ((S.getD k 0) / 2) < T.getD k 0))) = true then 1 else 0)), (6, ii_v (if (D || (!decide ((S.getD k 0) % 2 = 0) && decide (v 4 ((S.getD k 0) / 2) < T.getD k 0 - pl_since v S T (S.getD k 0)))) = true then 1 else 0)), (7, ii_v (((k : Nat) : Int) + 1)), (8, ii_v ((((S.getD k 0) : Nat) : Int) / 2))]) C dX10_fault_203 rfl (by decide) rfl ?_
                    refine a_goto (tgt := 37) C dX10_fault_206 rfl ?_
                    refine a_pick [0, 1, 2, 3, 4, 5, 6, 7] (L2 := [(0, .ref (ad 40)), (1, ii_v ((b : Nat) : Int)), (2, ii_v (pl_len v (f 46 b) (f 47 b) S (f 44 b) (f 45 b))), (3, ii_v (ri + pl_mv v (S.getD k 0))), (4, ii_v (if (A || (decide (f 41 b < ri + pl_mv v (S.getD k 0)))) = true then 1 else 0)), (5, ii_v (if (B || (decide ((S.getD k 0) % 2 = 0) && decide (v 3 ((S.getD k 0) / 2) < T.getD k 0))) = true then 1 else 0)), (6, ii_v (if (D || (!decide ((S.getD k 0) % 2 = 0) && decide (v 4 ((S.getD k 0) / 2) < T.getD k 0 - pl_since v S T (S.getD k 0)))) = true then 1 else 0)), (7, ii_v (((k : Nat) : Int) + 1))]) rfl ?_
                    exact ih37 (k + 1) (ri + pl_mv v (S.getD k 0)) (A || (decide (f 41 b < ri + pl_mv v (S.getD k 0)))) (B || (decide ((S.getD k 0) % 2 = 0) && decide (v 3 ((S.getD k 0) / 2) < T.getD k 0))) (D || (!decide ((S.getD k 0) % 2 = 0) && decide (v 4 ((S.getD k 0) / 2) < T.getD k 0 - pl_since v S T (S.getD k 0)))) (by omega) (by omega) (by omega) (by rw [← hA, ls_drop (k := k) (by omega), pl_seat, Bool.or_assoc]) (by rw [← hBb, ls_drop (k := k) (by omega), lt_drop (k := k) (by omega), pl_late, Bool.or_assoc]) (by rw [← hDd, ls_drop (k := k) (by omega), lt_drop (k := k) (by omega), pl_long, Bool.or_assoc])
                  · skip
                    exact absurd hpar h163
            · skip
              refine a_iconst C dX10_fault_103 ?_
              refine a_goto (tgt := 108) C dX10_fault_104 rfl ?_
              refine a_top (w := ii_v (if (decide (f 41 b < ri + pl_mv v (S.getD k 0))) = true then 1 else 0)) (by first | exact bt_1 (by first | exact decide_eq_true (by omega) | simp_all) | exact bt_0 (by first | exact decide_eq_false (by omega) | simp_all)) ?_
              refine a_ior (b := (if (A || (decide (f 41 b < ri + pl_mv v (S.getD k 0)))) = true then 1 else 0)) C dX10_fault_108 (ii_or _ _) ?_
              refine a_istore (L' := [(0, .ref (ad 40)), (1, ii_v ((b : Nat) : Int)), (2, ii_v (pl_len v (f 46 b) (f 47 b) S (f 44 b) (f 45 b))), (3, ii_v (ri + pl_mv v (S.getD k 0))), (4, ii_v (if (A || (decide (f 41 b < ri + pl_mv v (S.getD k 0)))) = true then 1 else 0)), (5, ii_v (if B = true then 1 else 0)), (6, ii_v (if D = true then 1 else 0)), (7, ii_v ((k : Nat) : Int)), (8, ii_v ((((S.getD k 0) : Nat) : Int) / 2))]) C dX10_fault_109 (by decide) rfl ?_
              refine a_iload C dX10_fault_111 rfl ?_
              refine a_aload_n C dX10_fault_113 rfl ?_
              refine a_get (ci := 11) (i := 35) (v := .ref (ad 75)) C iw_X10 rfl (by decide) rfl fl_X10_102 rfl rfl dX10_fault_114 ?_
              refine a_iload C dX10_fault_117 rfl ?_
              refine a_iald (o := 75) (N := 8) k C dX10_fault_119 rfl (by omega) (by omega) (by decide) ?_
              refine a_top (w := ii_v (g1 75 k)) rfl ?_
              refine a_top (w := ii_v ((S.getD k 0 : Nat) : Int)) (congrArg (fun q => ii_v q) ((congrFun (hfg1 75 (by decide)) _).trans (hj k (by omega)))) ?_
              refine a_callS (As := [ii_v (((S.getD k 0) : Nat) : Int)]) C (m_isDrop hl g1 w (S.getD k 0) (by omega)) co_X10_isDrop in_X10 ml_X10_135 sc_X10_isDrop ar_X10_isDrop ⟨by decide, by decide, by decide, by decide⟩ rfl (Nat.le_of_ble_eq_true rfl) dX10_fault_120 (a_dR ?_) a_nR
              rw [md_iff (P := (S.getD k 0) % 2 = 0)]
              refine a_bif_ne (tgt := 147) C dX10_fault_123 rfl (fun h123 => ?_) (fun h123 => ?_)
              · skip
                exact absurd hpar h123
              · skip
                refine a_aload_n C dX10_fault_126 rfl ?_
                refine a_get (ci := 11) (i := 36) (v := .ref (ad 76)) C iw_X10 rfl (by decide) rfl fl_X10_105 rfl rfl dX10_fault_127 ?_
                refine a_iload C dX10_fault_130 rfl ?_
                refine a_iald (o := 76) (N := 8) k C dX10_fault_132 rfl (by omega) (by omega) (by decide) ?_
                refine a_top (w := ii_v (g1 76 k)) rfl ?_
                refine a_top (w := ii_v (T.getD k 0)) (congrArg (fun q => ii_v q) (hTg1 k (by omega))) ?_
                refine a_aload_n C dX10_fault_133 rfl ?_
                refine a_get (ci := 11) (i := 18) (v := .ref (ad 58)) C iw_X10 rfl (by decide) rfl fl_X10_61 rfl rfl dX10_fault_134 ?_
                refine a_iload C dX10_fault_137 rfl ?_
                refine a_iald (o := 58) (N := 31) ((S.getD k 0) / 2) C dX10_fault_139 rfl (by omega) (by omega) (by decide) ?_
                refine a_top (w := ii_v (g1 58 ((S.getD k 0) / 2))) rfl ?_
                refine a_top (w := ii_v (v 3 ((S.getD k 0) / 2))) (congrArg (fun q => ii_v q) ((congrFun (hfg1 58 (by decide)) _).trans (hv.2 ((S.getD k 0) / 2) (by omega)).2.1)) ?_
                refine a_icmp_le (tgt := 147) C dX10_fault_140 rfl (by unfold ii_B; omega) (by unfold ii_B; omega) (fun h140 => ?_) (fun h140 => ?_)
                · skip
                  refine a_iconst C dX10_fault_147 ?_
                  refine a_top (w := ii_v (if (decide ((S.getD k 0) % 2 = 0) && decide (v 3 ((S.getD k 0) / 2) < T.getD k 0)) = true then 1 else 0)) (by first | exact bt_1 (by rw [decide_eq_true (p := (S.getD k 0) % 2 = 0) hpar, decide_eq_true (p := v 3 ((S.getD k 0) / 2) < T.getD k 0) (by omega)]; rfl) | exact bt_0 (by rw [decide_eq_true (p := (S.getD k 0) % 2 = 0) hpar, decide_eq_false (p := v 3 ((S.getD k 0) / 2) < T.getD k 0) (by omega)]; rfl) | exact bt_0 (by rw [decide_eq_false (p := (S.getD k 0) % 2 = 0) hpar]; rfl)) ?_
                  refine a_ior (b := (if (B || (decide ((S.getD k 0) % 2 = 0) && decide (v 3 ((S.getD k 0) / 2) < T.getD k 0))) = true then 1 else 0)) C dX10_fault_148 (ii_or _ _) ?_
                  refine a_istore (L' := [(0, .ref (ad 40)), (1, ii_v ((b : Nat) : Int)), (2, ii_v (pl_len v (f 46 b) (f 47 b) S (f 44 b) (f 45 b))), (3, ii_v (ri + pl_mv v (S.getD k 0))), (4, ii_v (if (A || (decide (f 41 b < ri + pl_mv v (S.getD k 0)))) = true then 1 else 0)), (5, ii_v (if (B || (decide ((S.getD k 0) % 2 = 0) && decide (v 3 ((S.getD k 0) / 2) < T.getD k 0))) = true then 1 else 0)), (6, ii_v (if D = true then 1 else 0)), (7, ii_v ((k : Nat) : Int)), (8, ii_v ((((S.getD k 0) : Nat) : Int) / 2))]) C dX10_fault_149 (by decide) rfl ?_
                  refine a_iload C dX10_fault_151 rfl ?_
                  refine a_aload_n C dX10_fault_153 rfl ?_
                  refine a_get (ci := 11) (i := 35) (v := .ref (ad 75)) C iw_X10 rfl (by decide) rfl fl_X10_102 rfl rfl dX10_fault_154 ?_
                  refine a_iload C dX10_fault_157 rfl ?_
                  refine a_iald (o := 75) (N := 8) k C dX10_fault_159 rfl (by omega) (by omega) (by decide) ?_
                  refine a_top (w := ii_v (g1 75 k)) rfl ?_
                  refine a_top (w := ii_v ((S.getD k 0 : Nat) : Int)) (congrArg (fun q => ii_v q) ((congrFun (hfg1 75 (by decide)) _).trans (hj k (by omega)))) ?_
                  refine a_callS (As := [ii_v (((S.getD k 0) : Nat) : Int)]) C (m_isDrop hl g1 w (S.getD k 0) (by omega)) co_X10_isDrop in_X10 ml_X10_135 sc_X10_isDrop ar_X10_isDrop ⟨by decide, by decide, by decide, by decide⟩ rfl (Nat.le_of_ble_eq_true rfl) dX10_fault_160 (a_dR ?_) a_nR
                  rw [md_iff (P := (S.getD k 0) % 2 = 0)]
                  refine a_bif_eq (tgt := 199) C dX10_fault_163 rfl (fun h163 => ?_) (fun h163 => ?_)
                  · skip
                    refine a_iconst C dX10_fault_199 ?_
                    refine a_top (w := ii_v (if (!decide ((S.getD k 0) % 2 = 0) && decide (v 4 ((S.getD k 0) / 2) < T.getD k 0 - pl_since v S T (S.getD k 0))) = true then 1 else 0)) (by first | exact bt_0 (by rw [decide_eq_true (p := (S.getD k 0) % 2 = 0) hpar]; rfl) | exact bt_1 (by rw [decide_eq_false (p := (S.getD k 0) % 2 = 0) hpar, decide_eq_true (p := v 4 ((S.getD k 0) / 2) < T.getD k 0 - pl_since v S T (S.getD k 0)) (by omega)]; rfl) | exact bt_0 (by rw [decide_eq_false (p := (S.getD k 0) % 2 = 0) hpar, decide_eq_false (p := v 4 ((S.getD k 0) / 2) < T.getD k 0 - pl_since v S T (S.getD k 0)) (by omega)]; rfl)) ?_
                    refine a_ior (b := (if (D || (!decide ((S.getD k 0) % 2 = 0) && decide (v 4 ((S.getD k 0) / 2) < T.getD k 0 - pl_since v S T (S.getD k 0)))) = true then 1 else 0)) C dX10_fault_200 (ii_or _ _) ?_
                    refine a_istore (L' := [(0, .ref (ad 40)), (1, ii_v ((b : Nat) : Int)), (2, ii_v (pl_len v (f 46 b) (f 47 b) S (f 44 b) (f 45 b))), (3, ii_v (ri + pl_mv v (S.getD k 0))), (4, ii_v (if (A || (decide (f 41 b < ri + pl_mv v (S.getD k 0)))) = true then 1 else 0)), (5, ii_v (if (B || (decide ((S.getD k 0) % 2 = 0) && decide (v 3 ((S.getD k 0) / 2) < T.getD k 0))) = true then 1 else 0)), (6, ii_v (if (D || (!decide ((S.getD k 0) % 2 = 0) && decide (v 4 ((S.getD k 0) / 2) < T.getD k 0 - pl_since v S T (S.getD k 0)))) = true then 1 else 0)), (7, ii_v ((k : Nat) : Int)), (8, ii_v ((((S.getD k 0) : Nat) : Int) / 2))]) C dX10_fault_201 (by decide) rfl ?_
                    refine a_iinc (L' := [(0, .ref (ad 40)), (1, ii_v ((b : Nat) : Int)), (2, ii_v (pl_len v (f 46 b) (f 47 b) S (f 44 b) (f 45 b))), (3, ii_v (ri + pl_mv v (S.getD k 0))), (4, ii_v (if (A || (decide (f 41 b < ri + pl_mv v (S.getD k 0)))) = true then 1 else 0)), (5, ii_v (if (B || (decide ((S.getD k 0) % 2 = 0) && decide (v 3 ((S.getD k 0) / 2) < T.getD k 0))) = true then 1 else 0)), (6, ii_v (if (D || (!decide ((S.getD k 0) % 2 = 0) && decide (v 4 ((S.getD k 0) / 2) < T.getD k 0 - pl_since v S T (S.getD k 0)))) = true then 1 else 0)), (7, ii_v (((k : Nat) : Int) + 1)), (8, ii_v ((((S.getD k 0) : Nat) : Int) / 2))]) C dX10_fault_203 rfl (by decide) rfl ?_
                    refine a_goto (tgt := 37) C dX10_fault_206 rfl ?_
                    refine a_pick [0, 1, 2, 3, 4, 5, 6, 7] (L2 := [(0, .ref (ad 40)), (1, ii_v ((b : Nat) : Int)), (2, ii_v (pl_len v (f 46 b) (f 47 b) S (f 44 b) (f 45 b))), (3, ii_v (ri + pl_mv v (S.getD k 0))), (4, ii_v (if (A || (decide (f 41 b < ri + pl_mv v (S.getD k 0)))) = true then 1 else 0)), (5, ii_v (if (B || (decide ((S.getD k 0) % 2 = 0) && decide (v 3 ((S.getD k 0) / 2) < T.getD k 0))) = true then 1 else 0)), (6, ii_v (if (D || (!decide ((S.getD k 0) % 2 = 0) && decide (v 4 ((S.getD k 0) / 2) < T.getD k 0 - pl_since v S T (S.getD k 0)))) = true then 1 else 0)), (7, ii_v (((k : Nat) : Int) + 1))]) rfl ?_
                    exact ih37 (k + 1) (ri + pl_mv v (S.getD k 0)) (A || (decide (f 41 b < ri + pl_mv v (S.getD k 0)))) (B || (decide ((S.getD k 0) % 2 = 0) && decide (v 3 ((S.getD k 0) / 2) < T.getD k 0))) (D || (!decide ((S.getD k 0) % 2 = 0) && decide (v 4 ((S.getD k 0) / 2) < T.getD k 0 - pl_since v S T (S.getD k 0)))) (by omega) (by omega) (by omega) (by rw [← hA, ls_drop (k := k) (by omega), pl_seat, Bool.or_assoc]) (by rw [← hBb, ls_drop (k := k) (by omega), lt_drop (k := k) (by omega), pl_late, Bool.or_assoc]) (by rw [← hDd, ls_drop (k := k) (by omega), lt_drop (k := k) (by omega), pl_long, Bool.or_assoc])
                  · skip
                    exact absurd hpar h163
                · skip
                  refine a_iconst C dX10_fault_143 ?_
                  refine a_goto (tgt := 148) C dX10_fault_144 rfl ?_
                  refine a_top (w := ii_v (if (decide ((S.getD k 0) % 2 = 0) && decide (v 3 ((S.getD k 0) / 2) < T.getD k 0)) = true then 1 else 0)) (by first | exact bt_1 (by rw [decide_eq_true (p := (S.getD k 0) % 2 = 0) hpar, decide_eq_true (p := v 3 ((S.getD k 0) / 2) < T.getD k 0) (by omega)]; rfl) | exact bt_0 (by rw [decide_eq_true (p := (S.getD k 0) % 2 = 0) hpar, decide_eq_false (p := v 3 ((S.getD k 0) / 2) < T.getD k 0) (by omega)]; rfl) | exact bt_0 (by rw [decide_eq_false (p := (S.getD k 0) % 2 = 0) hpar]; rfl)) ?_
                  refine a_ior (b := (if (B || (decide ((S.getD k 0) % 2 = 0) && decide (v 3 ((S.getD k 0) / 2) < T.getD k 0))) = true then 1 else 0)) C dX10_fault_148 (ii_or _ _) ?_
                  refine a_istore (L' := [(0, .ref (ad 40)), (1, ii_v ((b : Nat) : Int)), (2, ii_v (pl_len v (f 46 b) (f 47 b) S (f 44 b) (f 45 b))), (3, ii_v (ri + pl_mv v (S.getD k 0))), (4, ii_v (if (A || (decide (f 41 b < ri + pl_mv v (S.getD k 0)))) = true then 1 else 0)), (5, ii_v (if (B || (decide ((S.getD k 0) % 2 = 0) && decide (v 3 ((S.getD k 0) / 2) < T.getD k 0))) = true then 1 else 0)), (6, ii_v (if D = true then 1 else 0)), (7, ii_v ((k : Nat) : Int)), (8, ii_v ((((S.getD k 0) : Nat) : Int) / 2))]) C dX10_fault_149 (by decide) rfl ?_
                  refine a_iload C dX10_fault_151 rfl ?_
                  refine a_aload_n C dX10_fault_153 rfl ?_
                  refine a_get (ci := 11) (i := 35) (v := .ref (ad 75)) C iw_X10 rfl (by decide) rfl fl_X10_102 rfl rfl dX10_fault_154 ?_
                  refine a_iload C dX10_fault_157 rfl ?_
                  refine a_iald (o := 75) (N := 8) k C dX10_fault_159 rfl (by omega) (by omega) (by decide) ?_
                  refine a_top (w := ii_v (g1 75 k)) rfl ?_
                  refine a_top (w := ii_v ((S.getD k 0 : Nat) : Int)) (congrArg (fun q => ii_v q) ((congrFun (hfg1 75 (by decide)) _).trans (hj k (by omega)))) ?_
                  refine a_callS (As := [ii_v (((S.getD k 0) : Nat) : Int)]) C (m_isDrop hl g1 w (S.getD k 0) (by omega)) co_X10_isDrop in_X10 ml_X10_135 sc_X10_isDrop ar_X10_isDrop ⟨by decide, by decide, by decide, by decide⟩ rfl (Nat.le_of_ble_eq_true rfl) dX10_fault_160 (a_dR ?_) a_nR
                  rw [md_iff (P := (S.getD k 0) % 2 = 0)]
                  refine a_bif_eq (tgt := 199) C dX10_fault_163 rfl (fun h163 => ?_) (fun h163 => ?_)
                  · skip
                    refine a_iconst C dX10_fault_199 ?_
                    refine a_top (w := ii_v (if (!decide ((S.getD k 0) % 2 = 0) && decide (v 4 ((S.getD k 0) / 2) < T.getD k 0 - pl_since v S T (S.getD k 0))) = true then 1 else 0)) (by first | exact bt_0 (by rw [decide_eq_true (p := (S.getD k 0) % 2 = 0) hpar]; rfl) | exact bt_1 (by rw [decide_eq_false (p := (S.getD k 0) % 2 = 0) hpar, decide_eq_true (p := v 4 ((S.getD k 0) / 2) < T.getD k 0 - pl_since v S T (S.getD k 0)) (by omega)]; rfl) | exact bt_0 (by rw [decide_eq_false (p := (S.getD k 0) % 2 = 0) hpar, decide_eq_false (p := v 4 ((S.getD k 0) / 2) < T.getD k 0 - pl_since v S T (S.getD k 0)) (by omega)]; rfl)) ?_
                    refine a_ior (b := (if (D || (!decide ((S.getD k 0) % 2 = 0) && decide (v 4 ((S.getD k 0) / 2) < T.getD k 0 - pl_since v S T (S.getD k 0)))) = true then 1 else 0)) C dX10_fault_200 (ii_or _ _) ?_
                    refine a_istore (L' := [(0, .ref (ad 40)), (1, ii_v ((b : Nat) : Int)), (2, ii_v (pl_len v (f 46 b) (f 47 b) S (f 44 b) (f 45 b))), (3, ii_v (ri + pl_mv v (S.getD k 0))), (4, ii_v (if (A || (decide (f 41 b < ri + pl_mv v (S.getD k 0)))) = true then 1 else 0)), (5, ii_v (if (B || (decide ((S.getD k 0) % 2 = 0) && decide (v 3 ((S.getD k 0) / 2) < T.getD k 0))) = true then 1 else 0)), (6, ii_v (if (D || (!decide ((S.getD k 0) % 2 = 0) && decide (v 4 ((S.getD k 0) / 2) < T.getD k 0 - pl_since v S T (S.getD k 0)))) = true then 1 else 0)), (7, ii_v ((k : Nat) : Int)), (8, ii_v ((((S.getD k 0) : Nat) : Int) / 2))]) C dX10_fault_201 (by decide) rfl ?_
                    refine a_iinc (L' := [(0, .ref (ad 40)), (1, ii_v ((b : Nat) : Int)), (2, ii_v (pl_len v (f 46 b) (f 47 b) S (f 44 b) (f 45 b))), (3, ii_v (ri + pl_mv v (S.getD k 0))), (4, ii_v (if (A || (decide (f 41 b < ri + pl_mv v (S.getD k 0)))) = true then 1 else 0)), (5, ii_v (if (B || (decide ((S.getD k 0) % 2 = 0) && decide (v 3 ((S.getD k 0) / 2) < T.getD k 0))) = true then 1 else 0)), (6, ii_v (if (D || (!decide ((S.getD k 0) % 2 = 0) && decide (v 4 ((S.getD k 0) / 2) < T.getD k 0 - pl_since v S T (S.getD k 0)))) = true then 1 else 0)), (7, ii_v (((k : Nat) : Int) + 1)), (8, ii_v ((((S.getD k 0) : Nat) : Int) / 2))]) C dX10_fault_203 rfl (by decide) rfl ?_
                    refine a_goto (tgt := 37) C dX10_fault_206 rfl ?_
                    refine a_pick [0, 1, 2, 3, 4, 5, 6, 7] (L2 := [(0, .ref (ad 40)), (1, ii_v ((b : Nat) : Int)), (2, ii_v (pl_len v (f 46 b) (f 47 b) S (f 44 b) (f 45 b))), (3, ii_v (ri + pl_mv v (S.getD k 0))), (4, ii_v (if (A || (decide (f 41 b < ri + pl_mv v (S.getD k 0)))) = true then 1 else 0)), (5, ii_v (if (B || (decide ((S.getD k 0) % 2 = 0) && decide (v 3 ((S.getD k 0) / 2) < T.getD k 0))) = true then 1 else 0)), (6, ii_v (if (D || (!decide ((S.getD k 0) % 2 = 0) && decide (v 4 ((S.getD k 0) / 2) < T.getD k 0 - pl_since v S T (S.getD k 0)))) = true then 1 else 0)), (7, ii_v (((k : Nat) : Int) + 1))]) rfl ?_
                    exact ih37 (k + 1) (ri + pl_mv v (S.getD k 0)) (A || (decide (f 41 b < ri + pl_mv v (S.getD k 0)))) (B || (decide ((S.getD k 0) % 2 = 0) && decide (v 3 ((S.getD k 0) / 2) < T.getD k 0))) (D || (!decide ((S.getD k 0) % 2 = 0) && decide (v 4 ((S.getD k 0) / 2) < T.getD k 0 - pl_since v S T (S.getD k 0)))) (by omega) (by omega) (by omega) (by rw [← hA, ls_drop (k := k) (by omega), pl_seat, Bool.or_assoc]) (by rw [← hBb, ls_drop (k := k) (by omega), lt_drop (k := k) (by omega), pl_late, Bool.or_assoc]) (by rw [← hDd, ls_drop (k := k) (by omega), lt_drop (k := k) (by omega), pl_long, Bool.or_assoc])
                  · skip
                    exact absurd hpar h163
          · skip
            have hpar := h68
            refine a_aload_n C dX10_fault_71 rfl ?_
            refine a_get (ci := 11) (i := 17) (v := .ref (ad 57)) C iw_X10 rfl (by decide) rfl fl_X10_58 rfl rfl dX10_fault_72 ?_
            refine a_iload C dX10_fault_75 rfl ?_
            refine a_iald (o := 57) (N := 31) ((S.getD k 0) / 2) C dX10_fault_77 rfl (by omega) (by omega) (by decide) ?_
            refine a_top (w := ii_v (g1 57 ((S.getD k 0) / 2))) rfl ?_
            refine a_top (w := ii_v (v 2 ((S.getD k 0) / 2))) (congrArg (fun q => ii_v q) ((congrFun (hfg1 57 (by decide)) _).trans (hv.2 ((S.getD k 0) / 2) (by omega)).1)) ?_
            refine a_ineg C dX10_fault_78 ?_
            refine a_goto (tgt := 89) C dX10_fault_79 rfl ?_
            refine a_iadd C dX10_fault_89 ?_
            refine a_top (w := ii_v (ri + pl_mv v (S.getD k 0))) (by unfold pl_mv; first | rw [if_pos hpar] | rw [if_neg hpar]) ?_
            refine a_istore_n (L' := [(0, .ref (ad 40)), (1, ii_v ((b : Nat) : Int)), (2, ii_v (pl_len v (f 46 b) (f 47 b) S (f 44 b) (f 45 b))), (3, ii_v (ri + pl_mv v (S.getD k 0))), (4, ii_v (if A = true then 1 else 0)), (5, ii_v (if B = true then 1 else 0)), (6, ii_v (if D = true then 1 else 0)), (7, ii_v ((k : Nat) : Int)), (8, ii_v ((((S.getD k 0) : Nat) : Int) / 2))]) C dX10_fault_90 (by decide) rfl ?_
            refine a_iload C dX10_fault_91 rfl ?_
            refine a_iload_n C dX10_fault_93 rfl ?_
            refine a_aload_n C dX10_fault_94 rfl ?_
            refine a_get (ci := 11) (i := 1) (v := .ref (ad 41)) C iw_X10 rfl (by decide) rfl fl_X10_9 rfl rfl dX10_fault_95 ?_
            refine a_iload_n C dX10_fault_98 rfl ?_
            refine a_iald (o := 41) (N := 4) b C dX10_fault_99 rfl (by omega) (by omega) (by decide) ?_
            refine a_top (w := ii_v (g1 41 b)) rfl ?_
            refine a_top (w := ii_v (f 41 b)) (congrArg (fun q => ii_v q) (congrFun (hfg1 41 (by decide)) _)) ?_
            refine a_icmp_le (tgt := 107) C dX10_fault_100 rfl (by unfold ii_B; omega) (by unfold ii_B; omega) (fun h100 => ?_) (fun h100 => ?_)
            · skip
              refine a_iconst C dX10_fault_107 ?_
              refine a_top (w := ii_v (if (decide (f 41 b < ri + pl_mv v (S.getD k 0))) = true then 1 else 0)) (by first | exact bt_1 (by first | exact decide_eq_true (by omega) | simp_all) | exact bt_0 (by first | exact decide_eq_false (by omega) | simp_all)) ?_
              refine a_ior (b := (if (A || (decide (f 41 b < ri + pl_mv v (S.getD k 0)))) = true then 1 else 0)) C dX10_fault_108 (ii_or _ _) ?_
              refine a_istore (L' := [(0, .ref (ad 40)), (1, ii_v ((b : Nat) : Int)), (2, ii_v (pl_len v (f 46 b) (f 47 b) S (f 44 b) (f 45 b))), (3, ii_v (ri + pl_mv v (S.getD k 0))), (4, ii_v (if (A || (decide (f 41 b < ri + pl_mv v (S.getD k 0)))) = true then 1 else 0)), (5, ii_v (if B = true then 1 else 0)), (6, ii_v (if D = true then 1 else 0)), (7, ii_v ((k : Nat) : Int)), (8, ii_v ((((S.getD k 0) : Nat) : Int) / 2))]) C dX10_fault_109 (by decide) rfl ?_
              refine a_iload C dX10_fault_111 rfl ?_
              refine a_aload_n C dX10_fault_113 rfl ?_
              refine a_get (ci := 11) (i := 35) (v := .ref (ad 75)) C iw_X10 rfl (by decide) rfl fl_X10_102 rfl rfl dX10_fault_114 ?_
              refine a_iload C dX10_fault_117 rfl ?_
              refine a_iald (o := 75) (N := 8) k C dX10_fault_119 rfl (by omega) (by omega) (by decide) ?_
              refine a_top (w := ii_v (g1 75 k)) rfl ?_
              refine a_top (w := ii_v ((S.getD k 0 : Nat) : Int)) (congrArg (fun q => ii_v q) ((congrFun (hfg1 75 (by decide)) _).trans (hj k (by omega)))) ?_
              refine a_callS (As := [ii_v (((S.getD k 0) : Nat) : Int)]) C (m_isDrop hl g1 w (S.getD k 0) (by omega)) co_X10_isDrop in_X10 ml_X10_135 sc_X10_isDrop ar_X10_isDrop ⟨by decide, by decide, by decide, by decide⟩ rfl (Nat.le_of_ble_eq_true rfl) dX10_fault_120 (a_dR ?_) a_nR
              rw [md_iff (P := (S.getD k 0) % 2 = 0)]
              refine a_bif_ne (tgt := 147) C dX10_fault_123 rfl (fun h123 => ?_) (fun h123 => ?_)
              · skip
                refine a_iconst C dX10_fault_147 ?_
                refine a_top (w := ii_v (if (decide ((S.getD k 0) % 2 = 0) && decide (v 3 ((S.getD k 0) / 2) < T.getD k 0)) = true then 1 else 0)) (by first | exact bt_1 (by rw [decide_eq_true (p := (S.getD k 0) % 2 = 0) hpar, decide_eq_true (p := v 3 ((S.getD k 0) / 2) < T.getD k 0) (by omega)]; rfl) | exact bt_0 (by rw [decide_eq_true (p := (S.getD k 0) % 2 = 0) hpar, decide_eq_false (p := v 3 ((S.getD k 0) / 2) < T.getD k 0) (by omega)]; rfl) | exact bt_0 (by rw [decide_eq_false (p := (S.getD k 0) % 2 = 0) hpar]; rfl)) ?_
                refine a_ior (b := (if (B || (decide ((S.getD k 0) % 2 = 0) && decide (v 3 ((S.getD k 0) / 2) < T.getD k 0))) = true then 1 else 0)) C dX10_fault_148 (ii_or _ _) ?_
                refine a_istore (L' := [(0, .ref (ad 40)), (1, ii_v ((b : Nat) : Int)), (2, ii_v (pl_len v (f 46 b) (f 47 b) S (f 44 b) (f 45 b))), (3, ii_v (ri + pl_mv v (S.getD k 0))), (4, ii_v (if (A || (decide (f 41 b < ri + pl_mv v (S.getD k 0)))) = true then 1 else 0)), (5, ii_v (if (B || (decide ((S.getD k 0) % 2 = 0) && decide (v 3 ((S.getD k 0) / 2) < T.getD k 0))) = true then 1 else 0)), (6, ii_v (if D = true then 1 else 0)), (7, ii_v ((k : Nat) : Int)), (8, ii_v ((((S.getD k 0) : Nat) : Int) / 2))]) C dX10_fault_149 (by decide) rfl ?_
                refine a_iload C dX10_fault_151 rfl ?_
                refine a_aload_n C dX10_fault_153 rfl ?_
                refine a_get (ci := 11) (i := 35) (v := .ref (ad 75)) C iw_X10 rfl (by decide) rfl fl_X10_102 rfl rfl dX10_fault_154 ?_
                refine a_iload C dX10_fault_157 rfl ?_
                refine a_iald (o := 75) (N := 8) k C dX10_fault_159 rfl (by omega) (by omega) (by decide) ?_
                refine a_top (w := ii_v (g1 75 k)) rfl ?_
                refine a_top (w := ii_v ((S.getD k 0 : Nat) : Int)) (congrArg (fun q => ii_v q) ((congrFun (hfg1 75 (by decide)) _).trans (hj k (by omega)))) ?_
                refine a_callS (As := [ii_v (((S.getD k 0) : Nat) : Int)]) C (m_isDrop hl g1 w (S.getD k 0) (by omega)) co_X10_isDrop in_X10 ml_X10_135 sc_X10_isDrop ar_X10_isDrop ⟨by decide, by decide, by decide, by decide⟩ rfl (Nat.le_of_ble_eq_true rfl) dX10_fault_160 (a_dR ?_) a_nR
                rw [md_iff (P := (S.getD k 0) % 2 = 0)]
                refine a_bif_eq (tgt := 199) C dX10_fault_163 rfl (fun h163 => ?_) (fun h163 => ?_)
                · skip
                  exact absurd hpar h163
                · skip
                  refine a_aload_n C dX10_fault_166 rfl ?_
                  refine a_get (ci := 11) (i := 36) (v := .ref (ad 76)) C iw_X10 rfl (by decide) rfl fl_X10_105 rfl rfl dX10_fault_167 ?_
                  refine a_iload C dX10_fault_170 rfl ?_
                  refine a_iald (o := 76) (N := 8) k C dX10_fault_172 rfl (by omega) (by omega) (by decide) ?_
                  refine a_top (w := ii_v (g1 76 k)) rfl ?_
                  refine a_top (w := ii_v (T.getD k 0)) (congrArg (fun q => ii_v q) (hTg1 k (by omega))) ?_
                  refine a_aload_n C dX10_fault_173 rfl ?_
                  refine a_aload_n C dX10_fault_174 rfl ?_
                  refine a_get (ci := 11) (i := 35) (v := .ref (ad 75)) C iw_X10 rfl (by decide) rfl fl_X10_102 rfl rfl dX10_fault_175 ?_
                  refine a_iload C dX10_fault_178 rfl ?_
                  refine a_iald (o := 75) (N := 8) k C dX10_fault_180 rfl (by omega) (by omega) (by decide) ?_
                  refine a_top (w := ii_v (g1 75 k)) rfl ?_
                  refine a_top (w := ii_v ((S.getD k 0 : Nat) : Int)) (congrArg (fun q => ii_v q) ((congrFun (hfg1 75 (by decide)) _).trans (hj k (by omega)))) ?_
                  refine a_callV (o := 40) (As := [ii_v (((S.getD k 0) : Nat) : Int)]) C (m_pickupOf hl g1 w hvp (tr_same hS (hfg1 40 (by decide)) (hfg1 75 (by decide))) hq T hTg1 (S.getD k 0) (by omega) hpar) co_X10_pickupOf in_X10 ml_X10_166 im_X10_pickupOf se_X10_pickupOf rfl rfl ar_X10_pickupOf ⟨by decide, by decide, by decide, by decide⟩ rfl (Nat.le_of_ble_eq_true rfl) dX10_fault_181 (a_dR ?_) a_nR
                  have hsb : 0 ≤ pl_since v S T (S.getD k 0) ∧ pl_since v S T (S.getD k 0) ≤ 200000 := ls_sinceM hTb hv (by omega)
                  refine a_isub C dX10_fault_184 ?_
                  refine a_aload_n C dX10_fault_185 rfl ?_
                  refine a_get (ci := 11) (i := 19) (v := .ref (ad 59)) C iw_X10 rfl (by decide) rfl fl_X10_64 rfl rfl dX10_fault_186 ?_
                  refine a_iload C dX10_fault_189 rfl ?_
                  refine a_iald (o := 59) (N := 31) ((S.getD k 0) / 2) C dX10_fault_191 rfl (by omega) (by omega) (by decide) ?_
                  refine a_top (w := ii_v (g1 59 ((S.getD k 0) / 2))) rfl ?_
                  refine a_top (w := ii_v (v 4 ((S.getD k 0) / 2))) (congrArg (fun q => ii_v q) ((congrFun (hfg1 59 (by decide)) _).trans (hv.2 ((S.getD k 0) / 2) (by omega)).2.2.1)) ?_
                  refine a_icmp_le (tgt := 199) C dX10_fault_192 rfl (by unfold ii_B; omega) (by unfold ii_B; omega) (fun h192 => ?_) (fun h192 => ?_)
                  · skip
                    refine a_iconst C dX10_fault_199 ?_
                    refine a_top (w := ii_v (if (!decide ((S.getD k 0) % 2 = 0) && decide (v 4 ((S.getD k 0) / 2) < T.getD k 0 - pl_since v S T (S.getD k 0))) = true then 1 else 0)) (by first | exact bt_0 (by rw [decide_eq_true (p := (S.getD k 0) % 2 = 0) hpar]; rfl) | exact bt_1 (by rw [decide_eq_false (p := (S.getD k 0) % 2 = 0) hpar, decide_eq_true (p := v 4 ((S.getD k 0) / 2) < T.getD k 0 - pl_since v S T (S.getD k 0)) (by omega)]; rfl) | exact bt_0 (by rw [decide_eq_false (p := (S.getD k 0) % 2 = 0) hpar, decide_eq_false (p := v 4 ((S.getD k 0) / 2) < T.getD k 0 - pl_since v S T (S.getD k 0)) (by omega)]; rfl)) ?_
                    refine a_ior (b := (if (D || (!decide ((S.getD k 0) % 2 = 0) && decide (v 4 ((S.getD k 0) / 2) < T.getD k 0 - pl_since v S T (S.getD k 0)))) = true then 1 else 0)) C dX10_fault_200 (ii_or _ _) ?_
                    refine a_istore (L' := [(0, .ref (ad 40)), (1, ii_v ((b : Nat) : Int)), (2, ii_v (pl_len v (f 46 b) (f 47 b) S (f 44 b) (f 45 b))), (3, ii_v (ri + pl_mv v (S.getD k 0))), (4, ii_v (if (A || (decide (f 41 b < ri + pl_mv v (S.getD k 0)))) = true then 1 else 0)), (5, ii_v (if (B || (decide ((S.getD k 0) % 2 = 0) && decide (v 3 ((S.getD k 0) / 2) < T.getD k 0))) = true then 1 else 0)), (6, ii_v (if (D || (!decide ((S.getD k 0) % 2 = 0) && decide (v 4 ((S.getD k 0) / 2) < T.getD k 0 - pl_since v S T (S.getD k 0)))) = true then 1 else 0)), (7, ii_v ((k : Nat) : Int)), (8, ii_v ((((S.getD k 0) : Nat) : Int) / 2))]) C dX10_fault_201 (by decide) rfl ?_
                    refine a_iinc (L' := [(0, .ref (ad 40)), (1, ii_v ((b : Nat) : Int)), (2, ii_v (pl_len v (f 46 b) (f 47 b) S (f 44 b) (f 45 b))), (3, ii_v (ri + pl_mv v (S.getD k 0))), (4, ii_v (if (A || (decide (f 41 b < ri + pl_mv v (S.getD k 0)))) = true then 1 else 0)), (5, ii_v (if (B || (decide ((S.getD k 0) % 2 = 0) && decide (v 3 ((S.getD k 0) / 2) < T.getD k 0))) = true then 1 else 0)), (6, ii_v (if (D || (!decide ((S.getD k 0) % 2 = 0) && decide (v 4 ((S.getD k 0) / 2) < T.getD k 0 - pl_since v S T (S.getD k 0)))) = true then 1 else 0)), (7, ii_v (((k : Nat) : Int) + 1)), (8, ii_v ((((S.getD k 0) : Nat) : Int) / 2))]) C dX10_fault_203 rfl (by decide) rfl ?_
                    refine a_goto (tgt := 37) C dX10_fault_206 rfl ?_
                    refine a_pick [0, 1, 2, 3, 4, 5, 6, 7] (L2 := [(0, .ref (ad 40)), (1, ii_v ((b : Nat) : Int)), (2, ii_v (pl_len v (f 46 b) (f 47 b) S (f 44 b) (f 45 b))), (3, ii_v (ri + pl_mv v (S.getD k 0))), (4, ii_v (if (A || (decide (f 41 b < ri + pl_mv v (S.getD k 0)))) = true then 1 else 0)), (5, ii_v (if (B || (decide ((S.getD k 0) % 2 = 0) && decide (v 3 ((S.getD k 0) / 2) < T.getD k 0))) = true then 1 else 0)), (6, ii_v (if (D || (!decide ((S.getD k 0) % 2 = 0) && decide (v 4 ((S.getD k 0) / 2) < T.getD k 0 - pl_since v S T (S.getD k 0)))) = true then 1 else 0)), (7, ii_v (((k : Nat) : Int) + 1))]) rfl ?_
                    exact ih37 (k + 1) (ri + pl_mv v (S.getD k 0)) (A || (decide (f 41 b < ri + pl_mv v (S.getD k 0)))) (B || (decide ((S.getD k 0) % 2 = 0) && decide (v 3 ((S.getD k 0) / 2) < T.getD k 0))) (D || (!decide ((S.getD k 0) % 2 = 0) && decide (v 4 ((S.getD k 0) / 2) < T.getD k 0 - pl_since v S T (S.getD k 0)))) (by omega) (by omega) (by omega) (by rw [← hA, ls_drop (k := k) (by omega), pl_seat, Bool.or_assoc]) (by rw [← hBb, ls_drop (k := k) (by omega), lt_drop (k := k) (by omega), pl_late, Bool.or_assoc]) (by rw [← hDd, ls_drop (k := k) (by omega), lt_drop (k := k) (by omega), pl_long, Bool.or_assoc])
                  · skip
                    refine a_iconst C dX10_fault_195 ?_
                    refine a_goto (tgt := 200) C dX10_fault_196 rfl ?_
                    refine a_top (w := ii_v (if (!decide ((S.getD k 0) % 2 = 0) && decide (v 4 ((S.getD k 0) / 2) < T.getD k 0 - pl_since v S T (S.getD k 0))) = true then 1 else 0)) (by first | exact bt_0 (by rw [decide_eq_true (p := (S.getD k 0) % 2 = 0) hpar]; rfl) | exact bt_1 (by rw [decide_eq_false (p := (S.getD k 0) % 2 = 0) hpar, decide_eq_true (p := v 4 ((S.getD k 0) / 2) < T.getD k 0 - pl_since v S T (S.getD k 0)) (by omega)]; rfl) | exact bt_0 (by rw [decide_eq_false (p := (S.getD k 0) % 2 = 0) hpar, decide_eq_false (p := v 4 ((S.getD k 0) / 2) < T.getD k 0 - pl_since v S T (S.getD k 0)) (by omega)]; rfl)) ?_
                    refine a_ior (b := (if (D || (!decide ((S.getD k 0) % 2 = 0) && decide (v 4 ((S.getD k 0) / 2) < T.getD k 0 - pl_since v S T (S.getD k 0)))) = true then 1 else 0)) C dX10_fault_200 (ii_or _ _) ?_
                    refine a_istore (L' := [(0, .ref (ad 40)), (1, ii_v ((b : Nat) : Int)), (2, ii_v (pl_len v (f 46 b) (f 47 b) S (f 44 b) (f 45 b))), (3, ii_v (ri + pl_mv v (S.getD k 0))), (4, ii_v (if (A || (decide (f 41 b < ri + pl_mv v (S.getD k 0)))) = true then 1 else 0)), (5, ii_v (if (B || (decide ((S.getD k 0) % 2 = 0) && decide (v 3 ((S.getD k 0) / 2) < T.getD k 0))) = true then 1 else 0)), (6, ii_v (if (D || (!decide ((S.getD k 0) % 2 = 0) && decide (v 4 ((S.getD k 0) / 2) < T.getD k 0 - pl_since v S T (S.getD k 0)))) = true then 1 else 0)), (7, ii_v ((k : Nat) : Int)), (8, ii_v ((((S.getD k 0) : Nat) : Int) / 2))]) C dX10_fault_201 (by decide) rfl ?_
                    refine a_iinc (L' := [(0, .ref (ad 40)), (1, ii_v ((b : Nat) : Int)), (2, ii_v (pl_len v (f 46 b) (f 47 b) S (f 44 b) (f 45 b))), (3, ii_v (ri + pl_mv v (S.getD k 0))), (4, ii_v (if (A || (decide (f 41 b < ri + pl_mv v (S.getD k 0)))) = true then 1 else 0)), (5, ii_v (if (B || (decide ((S.getD k 0) % 2 = 0) && decide (v 3 ((S.getD k 0) / 2) < T.getD k 0))) = true then 1 else 0)), (6, ii_v (if (D || (!decide ((S.getD k 0) % 2 = 0) && decide (v 4 ((S.getD k 0) / 2) < T.getD k 0 - pl_since v S T (S.getD k 0)))) = true then 1 else 0)), (7, ii_v (((k : Nat) : Int) + 1)), (8, ii_v ((((S.getD k 0) : Nat) : Int) / 2))]) C dX10_fault_203 rfl (by decide) rfl ?_
                    refine a_goto (tgt := 37) C dX10_fault_206 rfl ?_
                    refine a_pick [0, 1, 2, 3, 4, 5, 6, 7] (L2 := [(0, .ref (ad 40)), (1, ii_v ((b : Nat) : Int)), (2, ii_v (pl_len v (f 46 b) (f 47 b) S (f 44 b) (f 45 b))), (3, ii_v (ri + pl_mv v (S.getD k 0))), (4, ii_v (if (A || (decide (f 41 b < ri + pl_mv v (S.getD k 0)))) = true then 1 else 0)), (5, ii_v (if (B || (decide ((S.getD k 0) % 2 = 0) && decide (v 3 ((S.getD k 0) / 2) < T.getD k 0))) = true then 1 else 0)), (6, ii_v (if (D || (!decide ((S.getD k 0) % 2 = 0) && decide (v 4 ((S.getD k 0) / 2) < T.getD k 0 - pl_since v S T (S.getD k 0)))) = true then 1 else 0)), (7, ii_v (((k : Nat) : Int) + 1))]) rfl ?_
                    exact ih37 (k + 1) (ri + pl_mv v (S.getD k 0)) (A || (decide (f 41 b < ri + pl_mv v (S.getD k 0)))) (B || (decide ((S.getD k 0) % 2 = 0) && decide (v 3 ((S.getD k 0) / 2) < T.getD k 0))) (D || (!decide ((S.getD k 0) % 2 = 0) && decide (v 4 ((S.getD k 0) / 2) < T.getD k 0 - pl_since v S T (S.getD k 0)))) (by omega) (by omega) (by omega) (by rw [← hA, ls_drop (k := k) (by omega), pl_seat, Bool.or_assoc]) (by rw [← hBb, ls_drop (k := k) (by omega), lt_drop (k := k) (by omega), pl_late, Bool.or_assoc]) (by rw [← hDd, ls_drop (k := k) (by omega), lt_drop (k := k) (by omega), pl_long, Bool.or_assoc])
              · skip
                exact absurd hpar h123
            · skip
              refine a_iconst C dX10_fault_103 ?_
              refine a_goto (tgt := 108) C dX10_fault_104 rfl ?_
              refine a_top (w := ii_v (if (decide (f 41 b < ri + pl_mv v (S.getD k 0))) = true then 1 else 0)) (by first | exact bt_1 (by first | exact decide_eq_true (by omega) | simp_all) | exact bt_0 (by first | exact decide_eq_false (by omega) | simp_all)) ?_
              refine a_ior (b := (if (A || (decide (f 41 b < ri + pl_mv v (S.getD k 0)))) = true then 1 else 0)) C dX10_fault_108 (ii_or _ _) ?_
              refine a_istore (L' := [(0, .ref (ad 40)), (1, ii_v ((b : Nat) : Int)), (2, ii_v (pl_len v (f 46 b) (f 47 b) S (f 44 b) (f 45 b))), (3, ii_v (ri + pl_mv v (S.getD k 0))), (4, ii_v (if (A || (decide (f 41 b < ri + pl_mv v (S.getD k 0)))) = true then 1 else 0)), (5, ii_v (if B = true then 1 else 0)), (6, ii_v (if D = true then 1 else 0)), (7, ii_v ((k : Nat) : Int)), (8, ii_v ((((S.getD k 0) : Nat) : Int) / 2))]) C dX10_fault_109 (by decide) rfl ?_
              refine a_iload C dX10_fault_111 rfl ?_
              refine a_aload_n C dX10_fault_113 rfl ?_
              refine a_get (ci := 11) (i := 35) (v := .ref (ad 75)) C iw_X10 rfl (by decide) rfl fl_X10_102 rfl rfl dX10_fault_114 ?_
              refine a_iload C dX10_fault_117 rfl ?_
              refine a_iald (o := 75) (N := 8) k C dX10_fault_119 rfl (by omega) (by omega) (by decide) ?_
              refine a_top (w := ii_v (g1 75 k)) rfl ?_
              refine a_top (w := ii_v ((S.getD k 0 : Nat) : Int)) (congrArg (fun q => ii_v q) ((congrFun (hfg1 75 (by decide)) _).trans (hj k (by omega)))) ?_
              refine a_callS (As := [ii_v (((S.getD k 0) : Nat) : Int)]) C (m_isDrop hl g1 w (S.getD k 0) (by omega)) co_X10_isDrop in_X10 ml_X10_135 sc_X10_isDrop ar_X10_isDrop ⟨by decide, by decide, by decide, by decide⟩ rfl (Nat.le_of_ble_eq_true rfl) dX10_fault_120 (a_dR ?_) a_nR
              rw [md_iff (P := (S.getD k 0) % 2 = 0)]
              refine a_bif_ne (tgt := 147) C dX10_fault_123 rfl (fun h123 => ?_) (fun h123 => ?_)
              · skip
                refine a_iconst C dX10_fault_147 ?_
                refine a_top (w := ii_v (if (decide ((S.getD k 0) % 2 = 0) && decide (v 3 ((S.getD k 0) / 2) < T.getD k 0)) = true then 1 else 0)) (by first | exact bt_1 (by rw [decide_eq_true (p := (S.getD k 0) % 2 = 0) hpar, decide_eq_true (p := v 3 ((S.getD k 0) / 2) < T.getD k 0) (by omega)]; rfl) | exact bt_0 (by rw [decide_eq_true (p := (S.getD k 0) % 2 = 0) hpar, decide_eq_false (p := v 3 ((S.getD k 0) / 2) < T.getD k 0) (by omega)]; rfl) | exact bt_0 (by rw [decide_eq_false (p := (S.getD k 0) % 2 = 0) hpar]; rfl)) ?_
                refine a_ior (b := (if (B || (decide ((S.getD k 0) % 2 = 0) && decide (v 3 ((S.getD k 0) / 2) < T.getD k 0))) = true then 1 else 0)) C dX10_fault_148 (ii_or _ _) ?_
                refine a_istore (L' := [(0, .ref (ad 40)), (1, ii_v ((b : Nat) : Int)), (2, ii_v (pl_len v (f 46 b) (f 47 b) S (f 44 b) (f 45 b))), (3, ii_v (ri + pl_mv v (S.getD k 0))), (4, ii_v (if (A || (decide (f 41 b < ri + pl_mv v (S.getD k 0)))) = true then 1 else 0)), (5, ii_v (if (B || (decide ((S.getD k 0) % 2 = 0) && decide (v 3 ((S.getD k 0) / 2) < T.getD k 0))) = true then 1 else 0)), (6, ii_v (if D = true then 1 else 0)), (7, ii_v ((k : Nat) : Int)), (8, ii_v ((((S.getD k 0) : Nat) : Int) / 2))]) C dX10_fault_149 (by decide) rfl ?_
                refine a_iload C dX10_fault_151 rfl ?_
                refine a_aload_n C dX10_fault_153 rfl ?_
                refine a_get (ci := 11) (i := 35) (v := .ref (ad 75)) C iw_X10 rfl (by decide) rfl fl_X10_102 rfl rfl dX10_fault_154 ?_
                refine a_iload C dX10_fault_157 rfl ?_
                refine a_iald (o := 75) (N := 8) k C dX10_fault_159 rfl (by omega) (by omega) (by decide) ?_
                refine a_top (w := ii_v (g1 75 k)) rfl ?_
                refine a_top (w := ii_v ((S.getD k 0 : Nat) : Int)) (congrArg (fun q => ii_v q) ((congrFun (hfg1 75 (by decide)) _).trans (hj k (by omega)))) ?_
                refine a_callS (As := [ii_v (((S.getD k 0) : Nat) : Int)]) C (m_isDrop hl g1 w (S.getD k 0) (by omega)) co_X10_isDrop in_X10 ml_X10_135 sc_X10_isDrop ar_X10_isDrop ⟨by decide, by decide, by decide, by decide⟩ rfl (Nat.le_of_ble_eq_true rfl) dX10_fault_160 (a_dR ?_) a_nR
                rw [md_iff (P := (S.getD k 0) % 2 = 0)]
                refine a_bif_eq (tgt := 199) C dX10_fault_163 rfl (fun h163 => ?_) (fun h163 => ?_)
                · skip
                  exact absurd hpar h163
                · skip
                  refine a_aload_n C dX10_fault_166 rfl ?_
                  refine a_get (ci := 11) (i := 36) (v := .ref (ad 76)) C iw_X10 rfl (by decide) rfl fl_X10_105 rfl rfl dX10_fault_167 ?_
                  refine a_iload C dX10_fault_170 rfl ?_
                  refine a_iald (o := 76) (N := 8) k C dX10_fault_172 rfl (by omega) (by omega) (by decide) ?_
                  refine a_top (w := ii_v (g1 76 k)) rfl ?_
                  refine a_top (w := ii_v (T.getD k 0)) (congrArg (fun q => ii_v q) (hTg1 k (by omega))) ?_
                  refine a_aload_n C dX10_fault_173 rfl ?_
                  refine a_aload_n C dX10_fault_174 rfl ?_
                  refine a_get (ci := 11) (i := 35) (v := .ref (ad 75)) C iw_X10 rfl (by decide) rfl fl_X10_102 rfl rfl dX10_fault_175 ?_
                  refine a_iload C dX10_fault_178 rfl ?_
                  refine a_iald (o := 75) (N := 8) k C dX10_fault_180 rfl (by omega) (by omega) (by decide) ?_
                  refine a_top (w := ii_v (g1 75 k)) rfl ?_
                  refine a_top (w := ii_v ((S.getD k 0 : Nat) : Int)) (congrArg (fun q => ii_v q) ((congrFun (hfg1 75 (by decide)) _).trans (hj k (by omega)))) ?_
                  refine a_callV (o := 40) (As := [ii_v (((S.getD k 0) : Nat) : Int)]) C (m_pickupOf hl g1 w hvp (tr_same hS (hfg1 40 (by decide)) (hfg1 75 (by decide))) hq T hTg1 (S.getD k 0) (by omega) hpar) co_X10_pickupOf in_X10 ml_X10_166 im_X10_pickupOf se_X10_pickupOf rfl rfl ar_X10_pickupOf ⟨by decide, by decide, by decide, by decide⟩ rfl (Nat.le_of_ble_eq_true rfl) dX10_fault_181 (a_dR ?_) a_nR
                  have hsb : 0 ≤ pl_since v S T (S.getD k 0) ∧ pl_since v S T (S.getD k 0) ≤ 200000 := ls_sinceM hTb hv (by omega)
                  refine a_isub C dX10_fault_184 ?_
                  refine a_aload_n C dX10_fault_185 rfl ?_
                  refine a_get (ci := 11) (i := 19) (v := .ref (ad 59)) C iw_X10 rfl (by decide) rfl fl_X10_64 rfl rfl dX10_fault_186 ?_
                  refine a_iload C dX10_fault_189 rfl ?_
                  refine a_iald (o := 59) (N := 31) ((S.getD k 0) / 2) C dX10_fault_191 rfl (by omega) (by omega) (by decide) ?_
                  refine a_top (w := ii_v (g1 59 ((S.getD k 0) / 2))) rfl ?_
                  refine a_top (w := ii_v (v 4 ((S.getD k 0) / 2))) (congrArg (fun q => ii_v q) ((congrFun (hfg1 59 (by decide)) _).trans (hv.2 ((S.getD k 0) / 2) (by omega)).2.2.1)) ?_
                  refine a_icmp_le (tgt := 199) C dX10_fault_192 rfl (by unfold ii_B; omega) (by unfold ii_B; omega) (fun h192 => ?_) (fun h192 => ?_)
                  · skip
                    refine a_iconst C dX10_fault_199 ?_
                    refine a_top (w := ii_v (if (!decide ((S.getD k 0) % 2 = 0) && decide (v 4 ((S.getD k 0) / 2) < T.getD k 0 - pl_since v S T (S.getD k 0))) = true then 1 else 0)) (by first | exact bt_0 (by rw [decide_eq_true (p := (S.getD k 0) % 2 = 0) hpar]; rfl) | exact bt_1 (by rw [decide_eq_false (p := (S.getD k 0) % 2 = 0) hpar, decide_eq_true (p := v 4 ((S.getD k 0) / 2) < T.getD k 0 - pl_since v S T (S.getD k 0)) (by omega)]; rfl) | exact bt_0 (by rw [decide_eq_false (p := (S.getD k 0) % 2 = 0) hpar, decide_eq_false (p := v 4 ((S.getD k 0) / 2) < T.getD k 0 - pl_since v S T (S.getD k 0)) (by omega)]; rfl)) ?_
                    refine a_ior (b := (if (D || (!decide ((S.getD k 0) % 2 = 0) && decide (v 4 ((S.getD k 0) / 2) < T.getD k 0 - pl_since v S T (S.getD k 0)))) = true then 1 else 0)) C dX10_fault_200 (ii_or _ _) ?_
                    refine a_istore (L' := [(0, .ref (ad 40)), (1, ii_v ((b : Nat) : Int)), (2, ii_v (pl_len v (f 46 b) (f 47 b) S (f 44 b) (f 45 b))), (3, ii_v (ri + pl_mv v (S.getD k 0))), (4, ii_v (if (A || (decide (f 41 b < ri + pl_mv v (S.getD k 0)))) = true then 1 else 0)), (5, ii_v (if (B || (decide ((S.getD k 0) % 2 = 0) && decide (v 3 ((S.getD k 0) / 2) < T.getD k 0))) = true then 1 else 0)), (6, ii_v (if (D || (!decide ((S.getD k 0) % 2 = 0) && decide (v 4 ((S.getD k 0) / 2) < T.getD k 0 - pl_since v S T (S.getD k 0)))) = true then 1 else 0)), (7, ii_v ((k : Nat) : Int)), (8, ii_v ((((S.getD k 0) : Nat) : Int) / 2))]) C dX10_fault_201 (by decide) rfl ?_
                    refine a_iinc (L' := [(0, .ref (ad 40)), (1, ii_v ((b : Nat) : Int)), (2, ii_v (pl_len v (f 46 b) (f 47 b) S (f 44 b) (f 45 b))), (3, ii_v (ri + pl_mv v (S.getD k 0))), (4, ii_v (if (A || (decide (f 41 b < ri + pl_mv v (S.getD k 0)))) = true then 1 else 0)), (5, ii_v (if (B || (decide ((S.getD k 0) % 2 = 0) && decide (v 3 ((S.getD k 0) / 2) < T.getD k 0))) = true then 1 else 0)), (6, ii_v (if (D || (!decide ((S.getD k 0) % 2 = 0) && decide (v 4 ((S.getD k 0) / 2) < T.getD k 0 - pl_since v S T (S.getD k 0)))) = true then 1 else 0)), (7, ii_v (((k : Nat) : Int) + 1)), (8, ii_v ((((S.getD k 0) : Nat) : Int) / 2))]) C dX10_fault_203 rfl (by decide) rfl ?_
                    refine a_goto (tgt := 37) C dX10_fault_206 rfl ?_
                    refine a_pick [0, 1, 2, 3, 4, 5, 6, 7] (L2 := [(0, .ref (ad 40)), (1, ii_v ((b : Nat) : Int)), (2, ii_v (pl_len v (f 46 b) (f 47 b) S (f 44 b) (f 45 b))), (3, ii_v (ri + pl_mv v (S.getD k 0))), (4, ii_v (if (A || (decide (f 41 b < ri + pl_mv v (S.getD k 0)))) = true then 1 else 0)), (5, ii_v (if (B || (decide ((S.getD k 0) % 2 = 0) && decide (v 3 ((S.getD k 0) / 2) < T.getD k 0))) = true then 1 else 0)), (6, ii_v (if (D || (!decide ((S.getD k 0) % 2 = 0) && decide (v 4 ((S.getD k 0) / 2) < T.getD k 0 - pl_since v S T (S.getD k 0)))) = true then 1 else 0)), (7, ii_v (((k : Nat) : Int) + 1))]) rfl ?_
                    exact ih37 (k + 1) (ri + pl_mv v (S.getD k 0)) (A || (decide (f 41 b < ri + pl_mv v (S.getD k 0)))) (B || (decide ((S.getD k 0) % 2 = 0) && decide (v 3 ((S.getD k 0) / 2) < T.getD k 0))) (D || (!decide ((S.getD k 0) % 2 = 0) && decide (v 4 ((S.getD k 0) / 2) < T.getD k 0 - pl_since v S T (S.getD k 0)))) (by omega) (by omega) (by omega) (by rw [← hA, ls_drop (k := k) (by omega), pl_seat, Bool.or_assoc]) (by rw [← hBb, ls_drop (k := k) (by omega), lt_drop (k := k) (by omega), pl_late, Bool.or_assoc]) (by rw [← hDd, ls_drop (k := k) (by omega), lt_drop (k := k) (by omega), pl_long, Bool.or_assoc])
                  · skip
                    refine a_iconst C dX10_fault_195 ?_
                    refine a_goto (tgt := 200) C dX10_fault_196 rfl ?_
                    refine a_top (w := ii_v (if (!decide ((S.getD k 0) % 2 = 0) && decide (v 4 ((S.getD k 0) / 2) < T.getD k 0 - pl_since v S T (S.getD k 0))) = true then 1 else 0)) (by first | exact bt_0 (by rw [decide_eq_true (p := (S.getD k 0) % 2 = 0) hpar]; rfl) | exact bt_1 (by rw [decide_eq_false (p := (S.getD k 0) % 2 = 0) hpar, decide_eq_true (p := v 4 ((S.getD k 0) / 2) < T.getD k 0 - pl_since v S T (S.getD k 0)) (by omega)]; rfl) | exact bt_0 (by rw [decide_eq_false (p := (S.getD k 0) % 2 = 0) hpar, decide_eq_false (p := v 4 ((S.getD k 0) / 2) < T.getD k 0 - pl_since v S T (S.getD k 0)) (by omega)]; rfl)) ?_
                    refine a_ior (b := (if (D || (!decide ((S.getD k 0) % 2 = 0) && decide (v 4 ((S.getD k 0) / 2) < T.getD k 0 - pl_since v S T (S.getD k 0)))) = true then 1 else 0)) C dX10_fault_200 (ii_or _ _) ?_
                    refine a_istore (L' := [(0, .ref (ad 40)), (1, ii_v ((b : Nat) : Int)), (2, ii_v (pl_len v (f 46 b) (f 47 b) S (f 44 b) (f 45 b))), (3, ii_v (ri + pl_mv v (S.getD k 0))), (4, ii_v (if (A || (decide (f 41 b < ri + pl_mv v (S.getD k 0)))) = true then 1 else 0)), (5, ii_v (if (B || (decide ((S.getD k 0) % 2 = 0) && decide (v 3 ((S.getD k 0) / 2) < T.getD k 0))) = true then 1 else 0)), (6, ii_v (if (D || (!decide ((S.getD k 0) % 2 = 0) && decide (v 4 ((S.getD k 0) / 2) < T.getD k 0 - pl_since v S T (S.getD k 0)))) = true then 1 else 0)), (7, ii_v ((k : Nat) : Int)), (8, ii_v ((((S.getD k 0) : Nat) : Int) / 2))]) C dX10_fault_201 (by decide) rfl ?_
                    refine a_iinc (L' := [(0, .ref (ad 40)), (1, ii_v ((b : Nat) : Int)), (2, ii_v (pl_len v (f 46 b) (f 47 b) S (f 44 b) (f 45 b))), (3, ii_v (ri + pl_mv v (S.getD k 0))), (4, ii_v (if (A || (decide (f 41 b < ri + pl_mv v (S.getD k 0)))) = true then 1 else 0)), (5, ii_v (if (B || (decide ((S.getD k 0) % 2 = 0) && decide (v 3 ((S.getD k 0) / 2) < T.getD k 0))) = true then 1 else 0)), (6, ii_v (if (D || (!decide ((S.getD k 0) % 2 = 0) && decide (v 4 ((S.getD k 0) / 2) < T.getD k 0 - pl_since v S T (S.getD k 0)))) = true then 1 else 0)), (7, ii_v (((k : Nat) : Int) + 1)), (8, ii_v ((((S.getD k 0) : Nat) : Int) / 2))]) C dX10_fault_203 rfl (by decide) rfl ?_
                    refine a_goto (tgt := 37) C dX10_fault_206 rfl ?_
                    refine a_pick [0, 1, 2, 3, 4, 5, 6, 7] (L2 := [(0, .ref (ad 40)), (1, ii_v ((b : Nat) : Int)), (2, ii_v (pl_len v (f 46 b) (f 47 b) S (f 44 b) (f 45 b))), (3, ii_v (ri + pl_mv v (S.getD k 0))), (4, ii_v (if (A || (decide (f 41 b < ri + pl_mv v (S.getD k 0)))) = true then 1 else 0)), (5, ii_v (if (B || (decide ((S.getD k 0) % 2 = 0) && decide (v 3 ((S.getD k 0) / 2) < T.getD k 0))) = true then 1 else 0)), (6, ii_v (if (D || (!decide ((S.getD k 0) % 2 = 0) && decide (v 4 ((S.getD k 0) / 2) < T.getD k 0 - pl_since v S T (S.getD k 0)))) = true then 1 else 0)), (7, ii_v (((k : Nat) : Int) + 1))]) rfl ?_
                    exact ih37 (k + 1) (ri + pl_mv v (S.getD k 0)) (A || (decide (f 41 b < ri + pl_mv v (S.getD k 0)))) (B || (decide ((S.getD k 0) % 2 = 0) && decide (v 3 ((S.getD k 0) / 2) < T.getD k 0))) (D || (!decide ((S.getD k 0) % 2 = 0) && decide (v 4 ((S.getD k 0) / 2) < T.getD k 0 - pl_since v S T (S.getD k 0)))) (by omega) (by omega) (by omega) (by rw [← hA, ls_drop (k := k) (by omega), pl_seat, Bool.or_assoc]) (by rw [← hBb, ls_drop (k := k) (by omega), lt_drop (k := k) (by omega), pl_late, Bool.or_assoc]) (by rw [← hDd, ls_drop (k := k) (by omega), lt_drop (k := k) (by omega), pl_long, Bool.or_assoc])
              · skip
                exact absurd hpar h123
    exact loop37 (_ + 1) 0 (ab_n f b n) (decide (6 < S.length)) false false (Nat.lt_succ_self _) (Nat.zero_le _) (by omega) rfl rfl rfl
  · skip
    refine a_iconst C dX10_fault_21 ?_
    refine a_goto (tgt := 26) C dX10_fault_22 rfl ?_
    refine a_top (w := ii_v (if (decide (6 < S.length)) = true then 1 else 0)) (by first | exact bt_1 (by first | exact decide_eq_true (by omega) | simp_all) | exact bt_0 (by first | exact decide_eq_false (by omega) | simp_all)) ?_
    refine a_istore (L' := [(0, .ref (ad 40)), (1, ii_v ((b : Nat) : Int)), (2, ii_v (pl_len v (f 46 b) (f 47 b) S (f 44 b) (f 45 b))), (3, ii_v (ab_n f b n)), (4, ii_v (if (decide (6 < S.length)) = true then 1 else 0))]) C dX10_fault_26 (by decide) rfl ?_
    refine a_iconst C dX10_fault_28 ?_
    refine a_istore (L' := [(0, .ref (ad 40)), (1, ii_v ((b : Nat) : Int)), (2, ii_v (pl_len v (f 46 b) (f 47 b) S (f 44 b) (f 45 b))), (3, ii_v (ab_n f b n)), (4, ii_v (if (decide (6 < S.length)) = true then 1 else 0)), (5, ii_v 0)]) C dX10_fault_29 (by decide) rfl ?_
    refine a_iconst C dX10_fault_31 ?_
    refine a_istore (L' := [(0, .ref (ad 40)), (1, ii_v ((b : Nat) : Int)), (2, ii_v (pl_len v (f 46 b) (f 47 b) S (f 44 b) (f 45 b))), (3, ii_v (ab_n f b n)), (4, ii_v (if (decide (6 < S.length)) = true then 1 else 0)), (5, ii_v 0), (6, ii_v 0)]) C dX10_fault_32 (by decide) rfl ?_
    refine a_iconst C dX10_fault_34 ?_
    refine a_istore (L' := [(0, .ref (ad 40)), (1, ii_v ((b : Nat) : Int)), (2, ii_v (pl_len v (f 46 b) (f 47 b) S (f 44 b) (f 45 b))), (3, ii_v (ab_n f b n)), (4, ii_v (if (decide (6 < S.length)) = true then 1 else 0)), (5, ii_v 0), (6, ii_v 0), (7, ii_v 0)]) C dX10_fault_35 (by decide) rfl ?_
    have loop37 : ∀ (NN37 : Nat) (k : Nat) (ri : Int) (A : Bool) (B : Bool) (D : Bool), S.length - k < NN37 → (k ≤ S.length) → (0 - 6 * (k : Int) ≤ ri ∧ ri ≤ 180 + 6 * (k : Int)) → ((A || pl_seat v (f 41 b) (S.drop k) ri) = (decide (6 < S.length) || pl_seat v (f 41 b) S (ab_n f b n))) → ((B || pl_late v (S.drop k) (T.drop k)) = pl_late v S T) → ((D || pl_long v S T (S.drop k) (T.drop k)) = pl_long v S T S T) → ab_W p l e (ab_rm 5 0 0) s m args below meth c E base 9 (ab_Q below E base Post args s 0 0) ab_x4 ad (g1, w) 0 0 37 [(0, .ref (ad 40)), (1, ii_v ((b : Nat) : Int)), (2, ii_v (pl_len v (f 46 b) (f 47 b) S (f 44 b) (f 45 b))), (3, ii_v ri), (4, ii_v (if A = true then 1 else 0)), (5, ii_v (if B = true then 1 else 0)), (6, ii_v (if D = true then 1 else 0)), (7, ii_v ((k : Nat) : Int))] [] := by
      intro NN37
      induction NN37 with
      | zero => intro k ri A B D hNN; exact absurd hNN (Nat.not_lt_zero _)
      | succ NN37 ih37 =>
        intro k ri A B D hNN hk hri hA hBb hDd
        refine a_iload C dX10_fault_37 rfl ?_
        refine a_aload_n C dX10_fault_39 rfl ?_
        refine a_get (ci := 11) (i := 37) (v := ii_v (g1 40 37)) C iw_X10 rfl (by decide) rfl fl_X10_144 rfl rfl dX10_fault_40 ?_
        refine a_top (w := ii_v ((S.length : Nat) : Int)) (congrArg (fun q => ii_v q) ((congrFun (hfg1 40 (by decide)) 37).trans hc)) ?_
        refine a_icmp_ge (tgt := 209) C dX10_fault_43 rfl (by unfold ii_B; omega) (by unfold ii_B; omega) (fun h43 => ?_) (fun h43 => ?_)
        · skip
          refine a_iload C dX10_fault_209 rfl ?_
          refine a_bif_eq (tgt := 218) C dX10_fault_211 rfl (fun h211 => ?_) (fun h211 => ?_)
          · skip
            refine a_iload C dX10_fault_218 rfl ?_
            refine a_bif_eq (tgt := 227) C dX10_fault_220 rfl (fun h220 => ?_) (fun h220 => ?_)
            · skip
              refine a_iload C dX10_fault_227 rfl ?_
              refine a_bif_eq (tgt := 236) C dX10_fault_229 rfl (fun h229 => ?_) (fun h229 => ?_)
              · skip
                refine a_iload_n C dX10_fault_236 rfl ?_
                refine a_aload_n C dX10_fault_237 rfl ?_
                refine a_get (ci := 11) (i := 3) (v := .ref (ad 43)) C iw_X10 rfl (by decide) rfl fl_X10_16 rfl rfl dX10_fault_238 ?_
                refine a_iload_n C dX10_fault_241 rfl ?_
                refine a_iald (o := 43) (N := 4) b C dX10_fault_242 rfl (by omega) (by omega) (by decide) ?_
                refine a_top (w := ii_v (g1 43 b)) rfl ?_
                refine a_top (w := ii_v (f 43 b)) (congrArg (fun q => ii_v q) (congrFun (hfg1 43 (by decide)) _)) ?_
                refine a_icmp_le (tgt := 250) C dX10_fault_243 rfl (by unfold ii_B; omega) (by unfold ii_B; omega) (fun h243 => ?_) (fun h243 => ?_)
                · skip
                  refine a_iconst C dX10_fault_250 ?_
                  refine a_iret C ?_ (by decide) (by decide) dX10_fault_251
                  rw [hPost]
                  rw [List.drop_eq_nil_of_le (by omega)] at hA hBb hDd
                  rw [show pl_seat v (f 41 b) [] ri = false from rfl, Bool.or_false] at hA
                  rw [show pl_late v [] (T.drop k) = false from rfl, Bool.or_false] at hBb
                  rw [show pl_long v S T [] (T.drop k) = false from rfl, Bool.or_false] at hDd
                  have hA2 := fl_A hA
                  skip
                  refine ab_F_of ⟨rt_j ?_, by rw [hTe]; exact hTg1, hfg1⟩
                  unfold pl_fault
                  rw [hTe, ← hBb, ← hDd]
                  rw [if_neg (fun z => (by assumption : ¬ A = true) (hA2.mpr z)), if_neg (by assumption : ¬ B = true), if_neg (by assumption : ¬ D = true)]; first | rw [if_pos (by omega)] | rw [if_neg (by omega)]
                · skip
                  refine a_iconst C dX10_fault_246 ?_
                  refine a_goto (tgt := 251) C dX10_fault_247 rfl ?_
                  refine a_iret C ?_ (by decide) (by decide) dX10_fault_251
                  rw [hPost]
                  rw [List.drop_eq_nil_of_le (by omega)] at hA hBb hDd
                  rw [show pl_seat v (f 41 b) [] ri = false from rfl, Bool.or_false] at hA
                  rw [show pl_late v [] (T.drop k) = false from rfl, Bool.or_false] at hBb
                  rw [show pl_long v S T [] (T.drop k) = false from rfl, Bool.or_false] at hDd
                  have hA2 := fl_A hA
                  skip
                  refine ab_F_of ⟨rt_j ?_, by rw [hTe]; exact hTg1, hfg1⟩
                  unfold pl_fault
                  rw [hTe, ← hBb, ← hDd]
                  rw [if_neg (fun z => (by assumption : ¬ A = true) (hA2.mpr z)), if_neg (by assumption : ¬ B = true), if_neg (by assumption : ¬ D = true)]; first | rw [if_pos (by omega)] | rw [if_neg (by omega)]
              · skip
                refine a_iconst C dX10_fault_232 ?_
                refine a_goto (tgt := 251) C dX10_fault_233 rfl ?_
                refine a_iret C ?_ (by decide) (by decide) dX10_fault_251
                rw [hPost]
                rw [List.drop_eq_nil_of_le (by omega)] at hA hBb hDd
                rw [show pl_seat v (f 41 b) [] ri = false from rfl, Bool.or_false] at hA
                rw [show pl_late v [] (T.drop k) = false from rfl, Bool.or_false] at hBb
                rw [show pl_long v S T [] (T.drop k) = false from rfl, Bool.or_false] at hDd
                have hA2 := fl_A hA
                skip
                refine ab_F_of ⟨rt_j ?_, by rw [hTe]; exact hTg1, hfg1⟩
                unfold pl_fault
                rw [hTe, ← hBb, ← hDd]
                rw [if_neg (fun z => (by assumption : ¬ A = true) (hA2.mpr z)), if_neg (by assumption), if_pos (by assumption)]
            · skip
              refine a_iconst C dX10_fault_223 ?_
              refine a_goto (tgt := 251) C dX10_fault_224 rfl ?_
              refine a_iret C ?_ (by decide) (by decide) dX10_fault_251
              rw [hPost]
              rw [List.drop_eq_nil_of_le (by omega)] at hA hBb hDd
              rw [show pl_seat v (f 41 b) [] ri = false from rfl, Bool.or_false] at hA
              rw [show pl_late v [] (T.drop k) = false from rfl, Bool.or_false] at hBb
              rw [show pl_long v S T [] (T.drop k) = false from rfl, Bool.or_false] at hDd
              have hA2 := fl_A hA
              skip
              refine ab_F_of ⟨rt_j ?_, by rw [hTe]; exact hTg1, hfg1⟩
              unfold pl_fault
              rw [hTe, ← hBb, ← hDd]
              rw [if_neg (fun z => (by assumption : ¬ A = true) (hA2.mpr z)), if_pos (by assumption)]
          · skip
            refine a_iconst C dX10_fault_214 ?_
            refine a_goto (tgt := 251) C dX10_fault_215 rfl ?_
            refine a_iret C ?_ (by decide) (by decide) dX10_fault_251
            rw [hPost]
            rw [List.drop_eq_nil_of_le (by omega)] at hA hBb hDd
            rw [show pl_seat v (f 41 b) [] ri = false from rfl, Bool.or_false] at hA
            rw [show pl_late v [] (T.drop k) = false from rfl, Bool.or_false] at hBb
            rw [show pl_long v S T [] (T.drop k) = false from rfl, Bool.or_false] at hDd
            have hA2 := fl_A hA
            skip
            refine ab_F_of ⟨rt_j ?_, by rw [hTe]; exact hTg1, hfg1⟩
            unfold pl_fault
            rw [hTe, ← hBb, ← hDd]
            rw [if_pos (hA2.mp (by assumption))]
        · skip
          have q1 := hq k (by omega)
          have qr := hv.2 _ q1
          have q64 := hb64 k (by omega)
          have qt := hTb k (by omega)
          have qmv := pl_mv_b (v := v) (q := (S.getD k 0)) qr.2.2.2.2.1
          refine a_aload_n C dX10_fault_46 rfl ?_
          refine a_get (ci := 11) (i := 35) (v := .ref (ad 75)) C iw_X10 rfl (by decide) rfl fl_X10_102 rfl rfl dX10_fault_47 ?_
          refine a_iload C dX10_fault_50 rfl ?_
          refine a_iald (o := 75) (N := 8) k C dX10_fault_52 rfl (by omega) (by omega) (by decide) ?_
          refine a_top (w := ii_v (g1 75 k)) rfl ?_
          refine a_top (w := ii_v ((S.getD k 0 : Nat) : Int)) (congrArg (fun q => ii_v q) ((congrFun (hfg1 75 (by decide)) _).trans (hj k (by omega)))) ?_
          refine a_iconst C dX10_fault_53 ?_
          refine a_idiv C dX10_fault_54 (by omega) (by omega) ?_
          refine a_istore (L' := [(0, .ref (ad 40)), (1, ii_v ((b : Nat) : Int)), (2, ii_v (pl_len v (f 46 b) (f 47 b) S (f 44 b) (f 45 b))), (3, ii_v ri), (4, ii_v (if A = true then 1 else 0)), (5, ii_v (if B = true then 1 else 0)), (6, ii_v (if D = true then 1 else 0)), (7, ii_v ((k : Nat) : Int)), (8, ii_v ((((S.getD k 0) : Nat) : Int) / 2))]) C dX10_fault_55 (by decide) rfl ?_
          refine a_iload_n C dX10_fault_57 rfl ?_
          refine a_aload_n C dX10_fault_58 rfl ?_
          refine a_get (ci := 11) (i := 35) (v := .ref (ad 75)) C iw_X10 rfl (by decide) rfl fl_X10_102 rfl rfl dX10_fault_59 ?_
          refine a_iload C dX10_fault_62 rfl ?_
          refine a_iald (o := 75) (N := 8) k C dX10_fault_64 rfl (by omega) (by omega) (by decide) ?_
          refine a_top (w := ii_v (g1 75 k)) rfl ?_
          refine a_top (w := ii_v ((S.getD k 0 : Nat) : Int)) (congrArg (fun q => ii_v q) ((congrFun (hfg1 75 (by decide)) _).trans (hj k (by omega)))) ?_
          refine a_callS (As := [ii_v (((S.getD k 0) : Nat) : Int)]) C (m_isDrop hl g1 w (S.getD k 0) (by omega)) co_X10_isDrop in_X10 ml_X10_135 sc_X10_isDrop ar_X10_isDrop ⟨by decide, by decide, by decide, by decide⟩ rfl (Nat.le_of_ble_eq_true rfl) dX10_fault_65 (a_dR ?_) a_nR
          rw [md_iff (P := (S.getD k 0) % 2 = 0)]
          refine a_bif_eq (tgt := 82) C dX10_fault_68 rfl (fun h68 => ?_) (fun h68 => ?_)
          · skip
            have hpar : (S.getD k 0) % 2 = 0 := Classical.byContradiction h68
            refine a_aload_n C dX10_fault_82 rfl ?_
            refine a_get (ci := 11) (i := 17) (v := .ref (ad 57)) C iw_X10 rfl (by decide) rfl fl_X10_58 rfl rfl dX10_fault_83 ?_
            refine a_iload C dX10_fault_86 rfl ?_
            refine a_iald (o := 57) (N := 31) ((S.getD k 0) / 2) C dX10_fault_88 rfl (by omega) (by omega) (by decide) ?_
            refine a_top (w := ii_v (g1 57 ((S.getD k 0) / 2))) rfl ?_
            refine a_top (w := ii_v (v 2 ((S.getD k 0) / 2))) (congrArg (fun q => ii_v q) ((congrFun (hfg1 57 (by decide)) _).trans (hv.2 ((S.getD k 0) / 2) (by omega)).1)) ?_
            refine a_iadd C dX10_fault_89 ?_
            refine a_top (w := ii_v (ri + pl_mv v (S.getD k 0))) (by unfold pl_mv; first | rw [if_pos hpar] | rw [if_neg hpar]) ?_
            refine a_istore_n (L' := [(0, .ref (ad 40)), (1, ii_v ((b : Nat) : Int)), (2, ii_v (pl_len v (f 46 b) (f 47 b) S (f 44 b) (f 45 b))), (3, ii_v (ri + pl_mv v (S.getD k 0))), (4, ii_v (if A = true then 1 else 0)), (5, ii_v (if B = true then 1 else 0)), (6, ii_v (if D = true then 1 else 0)), (7, ii_v ((k : Nat) : Int)), (8, ii_v ((((S.getD k 0) : Nat) : Int) / 2))]) C dX10_fault_90 (by decide) rfl ?_
            refine a_iload C dX10_fault_91 rfl ?_
            refine a_iload_n C dX10_fault_93 rfl ?_
            refine a_aload_n C dX10_fault_94 rfl ?_
            refine a_get (ci := 11) (i := 1) (v := .ref (ad 41)) C iw_X10 rfl (by decide) rfl fl_X10_9 rfl rfl dX10_fault_95 ?_
            refine a_iload_n C dX10_fault_98 rfl ?_
            refine a_iald (o := 41) (N := 4) b C dX10_fault_99 rfl (by omega) (by omega) (by decide) ?_
            refine a_top (w := ii_v (g1 41 b)) rfl ?_
            refine a_top (w := ii_v (f 41 b)) (congrArg (fun q => ii_v q) (congrFun (hfg1 41 (by decide)) _)) ?_
            refine a_icmp_le (tgt := 107) C dX10_fault_100 rfl (by unfold ii_B; omega) (by unfold ii_B; omega) (fun h100 => ?_) (fun h100 => ?_)
            · skip
              refine a_iconst C dX10_fault_107 ?_
              refine a_top (w := ii_v (if (decide (f 41 b < ri + pl_mv v (S.getD k 0))) = true then 1 else 0)) (by first | exact bt_1 (by first | exact decide_eq_true (by omega) | simp_all) | exact bt_0 (by first | exact decide_eq_false (by omega) | simp_all)) ?_
              refine a_ior (b := (if (A || (decide (f 41 b < ri + pl_mv v (S.getD k 0)))) = true then 1 else 0)) C dX10_fault_108 (ii_or _ _) ?_
              refine a_istore (L' := [(0, .ref (ad 40)), (1, ii_v ((b : Nat) : Int)), (2, ii_v (pl_len v (f 46 b) (f 47 b) S (f 44 b) (f 45 b))), (3, ii_v (ri + pl_mv v (S.getD k 0))), (4, ii_v (if (A || (decide (f 41 b < ri + pl_mv v (S.getD k 0)))) = true then 1 else 0)), (5, ii_v (if B = true then 1 else 0)), (6, ii_v (if D = true then 1 else 0)), (7, ii_v ((k : Nat) : Int)), (8, ii_v ((((S.getD k 0) : Nat) : Int) / 2))]) C dX10_fault_109 (by decide) rfl ?_
              refine a_iload C dX10_fault_111 rfl ?_
              refine a_aload_n C dX10_fault_113 rfl ?_
              refine a_get (ci := 11) (i := 35) (v := .ref (ad 75)) C iw_X10 rfl (by decide) rfl fl_X10_102 rfl rfl dX10_fault_114 ?_
              refine a_iload C dX10_fault_117 rfl ?_
              refine a_iald (o := 75) (N := 8) k C dX10_fault_119 rfl (by omega) (by omega) (by decide) ?_
              refine a_top (w := ii_v (g1 75 k)) rfl ?_
              refine a_top (w := ii_v ((S.getD k 0 : Nat) : Int)) (congrArg (fun q => ii_v q) ((congrFun (hfg1 75 (by decide)) _).trans (hj k (by omega)))) ?_
              refine a_callS (As := [ii_v (((S.getD k 0) : Nat) : Int)]) C (m_isDrop hl g1 w (S.getD k 0) (by omega)) co_X10_isDrop in_X10 ml_X10_135 sc_X10_isDrop ar_X10_isDrop ⟨by decide, by decide, by decide, by decide⟩ rfl (Nat.le_of_ble_eq_true rfl) dX10_fault_120 (a_dR ?_) a_nR
              rw [md_iff (P := (S.getD k 0) % 2 = 0)]
              refine a_bif_ne (tgt := 147) C dX10_fault_123 rfl (fun h123 => ?_) (fun h123 => ?_)
              · skip
                exact absurd hpar h123
              · skip
                refine a_aload_n C dX10_fault_126 rfl ?_
                refine a_get (ci := 11) (i := 36) (v := .ref (ad 76)) C iw_X10 rfl (by decide) rfl fl_X10_105 rfl rfl dX10_fault_127 ?_
                refine a_iload C dX10_fault_130 rfl ?_
                refine a_iald (o := 76) (N := 8) k C dX10_fault_132 rfl (by omega) (by omega) (by decide) ?_
                refine a_top (w := ii_v (g1 76 k)) rfl ?_
                refine a_top (w := ii_v (T.getD k 0)) (congrArg (fun q => ii_v q) (hTg1 k (by omega))) ?_
                refine a_aload_n C dX10_fault_133 rfl ?_
                refine a_get (ci := 11) (i := 18) (v := .ref (ad 58)) C iw_X10 rfl (by decide) rfl fl_X10_61 rfl rfl dX10_fault_134 ?_
                refine a_iload C dX10_fault_137 rfl ?_
                refine a_iald (o := 58) (N := 31) ((S.getD k 0) / 2) C dX10_fault_139 rfl (by omega) (by omega) (by decide) ?_
                refine a_top (w := ii_v (g1 58 ((S.getD k 0) / 2))) rfl ?_
                refine a_top (w := ii_v (v 3 ((S.getD k 0) / 2))) (congrArg (fun q => ii_v q) ((congrFun (hfg1 58 (by decide)) _).trans (hv.2 ((S.getD k 0) / 2) (by omega)).2.1)) ?_
                refine a_icmp_le (tgt := 147) C dX10_fault_140 rfl (by unfold ii_B; omega) (by unfold ii_B; omega) (fun h140 => ?_) (fun h140 => ?_)
                · skip
                  refine a_iconst C dX10_fault_147 ?_
                  refine a_top (w := ii_v (if (decide ((S.getD k 0) % 2 = 0) && decide (v 3 ((S.getD k 0) / 2) < T.getD k 0)) = true then 1 else 0)) (by first | exact bt_1 (by rw [decide_eq_true (p := (S.getD k 0) % 2 = 0) hpar, decide_eq_true (p := v 3 ((S.getD k 0) / 2) < T.getD k 0) (by omega)]; rfl) | exact bt_0 (by rw [decide_eq_true (p := (S.getD k 0) % 2 = 0) hpar, decide_eq_false (p := v 3 ((S.getD k 0) / 2) < T.getD k 0) (by omega)]; rfl) | exact bt_0 (by rw [decide_eq_false (p := (S.getD k 0) % 2 = 0) hpar]; rfl)) ?_
                  refine a_ior (b := (if (B || (decide ((S.getD k 0) % 2 = 0) && decide (v 3 ((S.getD k 0) / 2) < T.getD k 0))) = true then 1 else 0)) C dX10_fault_148 (ii_or _ _) ?_
                  refine a_istore (L' := [(0, .ref (ad 40)), (1, ii_v ((b : Nat) : Int)), (2, ii_v (pl_len v (f 46 b) (f 47 b) S (f 44 b) (f 45 b))), (3, ii_v (ri + pl_mv v (S.getD k 0))), (4, ii_v (if (A || (decide (f 41 b < ri + pl_mv v (S.getD k 0)))) = true then 1 else 0)), (5, ii_v (if (B || (decide ((S.getD k 0) % 2 = 0) && decide (v 3 ((S.getD k 0) / 2) < T.getD k 0))) = true then 1 else 0)), (6, ii_v (if D = true then 1 else 0)), (7, ii_v ((k : Nat) : Int)), (8, ii_v ((((S.getD k 0) : Nat) : Int) / 2))]) C dX10_fault_149 (by decide) rfl ?_
                  refine a_iload C dX10_fault_151 rfl ?_
                  refine a_aload_n C dX10_fault_153 rfl ?_
                  refine a_get (ci := 11) (i := 35) (v := .ref (ad 75)) C iw_X10 rfl (by decide) rfl fl_X10_102 rfl rfl dX10_fault_154 ?_
                  refine a_iload C dX10_fault_157 rfl ?_
                  refine a_iald (o := 75) (N := 8) k C dX10_fault_159 rfl (by omega) (by omega) (by decide) ?_
                  refine a_top (w := ii_v (g1 75 k)) rfl ?_
                  refine a_top (w := ii_v ((S.getD k 0 : Nat) : Int)) (congrArg (fun q => ii_v q) ((congrFun (hfg1 75 (by decide)) _).trans (hj k (by omega)))) ?_
                  refine a_callS (As := [ii_v (((S.getD k 0) : Nat) : Int)]) C (m_isDrop hl g1 w (S.getD k 0) (by omega)) co_X10_isDrop in_X10 ml_X10_135 sc_X10_isDrop ar_X10_isDrop ⟨by decide, by decide, by decide, by decide⟩ rfl (Nat.le_of_ble_eq_true rfl) dX10_fault_160 (a_dR ?_) a_nR
                  rw [md_iff (P := (S.getD k 0) % 2 = 0)]
                  refine a_bif_eq (tgt := 199) C dX10_fault_163 rfl (fun h163 => ?_) (fun h163 => ?_)
                  · skip
                    refine a_iconst C dX10_fault_199 ?_
                    refine a_top (w := ii_v (if (!decide ((S.getD k 0) % 2 = 0) && decide (v 4 ((S.getD k 0) / 2) < T.getD k 0 - pl_since v S T (S.getD k 0))) = true then 1 else 0)) (by first | exact bt_0 (by rw [decide_eq_true (p := (S.getD k 0) % 2 = 0) hpar]; rfl) | exact bt_1 (by rw [decide_eq_false (p := (S.getD k 0) % 2 = 0) hpar, decide_eq_true (p := v 4 ((S.getD k 0) / 2) < T.getD k 0 - pl_since v S T (S.getD k 0)) (by omega)]; rfl) | exact bt_0 (by rw [decide_eq_false (p := (S.getD k 0) % 2 = 0) hpar, decide_eq_false (p := v 4 ((S.getD k 0) / 2) < T.getD k 0 - pl_since v S T (S.getD k 0)) (by omega)]; rfl)) ?_
                    refine a_ior (b := (if (D || (!decide ((S.getD k 0) % 2 = 0) && decide (v 4 ((S.getD k 0) / 2) < T.getD k 0 - pl_since v S T (S.getD k 0)))) = true then 1 else 0)) C dX10_fault_200 (ii_or _ _) ?_
                    refine a_istore (L' := [(0, .ref (ad 40)), (1, ii_v ((b : Nat) : Int)), (2, ii_v (pl_len v (f 46 b) (f 47 b) S (f 44 b) (f 45 b))), (3, ii_v (ri + pl_mv v (S.getD k 0))), (4, ii_v (if (A || (decide (f 41 b < ri + pl_mv v (S.getD k 0)))) = true then 1 else 0)), (5, ii_v (if (B || (decide ((S.getD k 0) % 2 = 0) && decide (v 3 ((S.getD k 0) / 2) < T.getD k 0))) = true then 1 else 0)), (6, ii_v (if (D || (!decide ((S.getD k 0) % 2 = 0) && decide (v 4 ((S.getD k 0) / 2) < T.getD k 0 - pl_since v S T (S.getD k 0)))) = true then 1 else 0)), (7, ii_v ((k : Nat) : Int)), (8, ii_v ((((S.getD k 0) : Nat) : Int) / 2))]) C dX10_fault_201 (by decide) rfl ?_
                    refine a_iinc (L' := [(0, .ref (ad 40)), (1, ii_v ((b : Nat) : Int)), (2, ii_v (pl_len v (f 46 b) (f 47 b) S (f 44 b) (f 45 b))), (3, ii_v (ri + pl_mv v (S.getD k 0))), (4, ii_v (if (A || (decide (f 41 b < ri + pl_mv v (S.getD k 0)))) = true then 1 else 0)), (5, ii_v (if (B || (decide ((S.getD k 0) % 2 = 0) && decide (v 3 ((S.getD k 0) / 2) < T.getD k 0))) = true then 1 else 0)), (6, ii_v (if (D || (!decide ((S.getD k 0) % 2 = 0) && decide (v 4 ((S.getD k 0) / 2) < T.getD k 0 - pl_since v S T (S.getD k 0)))) = true then 1 else 0)), (7, ii_v (((k : Nat) : Int) + 1)), (8, ii_v ((((S.getD k 0) : Nat) : Int) / 2))]) C dX10_fault_203 rfl (by decide) rfl ?_
                    refine a_goto (tgt := 37) C dX10_fault_206 rfl ?_
                    refine a_pick [0, 1, 2, 3, 4, 5, 6, 7] (L2 := [(0, .ref (ad 40)), (1, ii_v ((b : Nat) : Int)), (2, ii_v (pl_len v (f 46 b) (f 47 b) S (f 44 b) (f 45 b))), (3, ii_v (ri + pl_mv v (S.getD k 0))), (4, ii_v (if (A || (decide (f 41 b < ri + pl_mv v (S.getD k 0)))) = true then 1 else 0)), (5, ii_v (if (B || (decide ((S.getD k 0) % 2 = 0) && decide (v 3 ((S.getD k 0) / 2) < T.getD k 0))) = true then 1 else 0)), (6, ii_v (if (D || (!decide ((S.getD k 0) % 2 = 0) && decide (v 4 ((S.getD k 0) / 2) < T.getD k 0 - pl_since v S T (S.getD k 0)))) = true then 1 else 0)), (7, ii_v (((k : Nat) : Int) + 1))]) rfl ?_
                    exact ih37 (k + 1) (ri + pl_mv v (S.getD k 0)) (A || (decide (f 41 b < ri + pl_mv v (S.getD k 0)))) (B || (decide ((S.getD k 0) % 2 = 0) && decide (v 3 ((S.getD k 0) / 2) < T.getD k 0))) (D || (!decide ((S.getD k 0) % 2 = 0) && decide (v 4 ((S.getD k 0) / 2) < T.getD k 0 - pl_since v S T (S.getD k 0)))) (by omega) (by omega) (by omega) (by rw [← hA, ls_drop (k := k) (by omega), pl_seat, Bool.or_assoc]) (by rw [← hBb, ls_drop (k := k) (by omega), lt_drop (k := k) (by omega), pl_late, Bool.or_assoc]) (by rw [← hDd, ls_drop (k := k) (by omega), lt_drop (k := k) (by omega), pl_long, Bool.or_assoc])
                  · skip
                    exact absurd hpar h163
                · skip
                  refine a_iconst C dX10_fault_143 ?_
                  refine a_goto (tgt := 148) C dX10_fault_144 rfl ?_
                  refine a_top (w := ii_v (if (decide ((S.getD k 0) % 2 = 0) && decide (v 3 ((S.getD k 0) / 2) < T.getD k 0)) = true then 1 else 0)) (by first | exact bt_1 (by rw [decide_eq_true (p := (S.getD k 0) % 2 = 0) hpar, decide_eq_true (p := v 3 ((S.getD k 0) / 2) < T.getD k 0) (by omega)]; rfl) | exact bt_0 (by rw [decide_eq_true (p := (S.getD k 0) % 2 = 0) hpar, decide_eq_false (p := v 3 ((S.getD k 0) / 2) < T.getD k 0) (by omega)]; rfl) | exact bt_0 (by rw [decide_eq_false (p := (S.getD k 0) % 2 = 0) hpar]; rfl)) ?_
                  refine a_ior (b := (if (B || (decide ((S.getD k 0) % 2 = 0) && decide (v 3 ((S.getD k 0) / 2) < T.getD k 0))) = true then 1 else 0)) C dX10_fault_148 (ii_or _ _) ?_
                  refine a_istore (L' := [(0, .ref (ad 40)), (1, ii_v ((b : Nat) : Int)), (2, ii_v (pl_len v (f 46 b) (f 47 b) S (f 44 b) (f 45 b))), (3, ii_v (ri + pl_mv v (S.getD k 0))), (4, ii_v (if (A || (decide (f 41 b < ri + pl_mv v (S.getD k 0)))) = true then 1 else 0)), (5, ii_v (if (B || (decide ((S.getD k 0) % 2 = 0) && decide (v 3 ((S.getD k 0) / 2) < T.getD k 0))) = true then 1 else 0)), (6, ii_v (if D = true then 1 else 0)), (7, ii_v ((k : Nat) : Int)), (8, ii_v ((((S.getD k 0) : Nat) : Int) / 2))]) C dX10_fault_149 (by decide) rfl ?_
                  refine a_iload C dX10_fault_151 rfl ?_
                  refine a_aload_n C dX10_fault_153 rfl ?_
                  refine a_get (ci := 11) (i := 35) (v := .ref (ad 75)) C iw_X10 rfl (by decide) rfl fl_X10_102 rfl rfl dX10_fault_154 ?_
                  refine a_iload C dX10_fault_157 rfl ?_
                  refine a_iald (o := 75) (N := 8) k C dX10_fault_159 rfl (by omega) (by omega) (by decide) ?_
                  refine a_top (w := ii_v (g1 75 k)) rfl ?_
                  refine a_top (w := ii_v ((S.getD k 0 : Nat) : Int)) (congrArg (fun q => ii_v q) ((congrFun (hfg1 75 (by decide)) _).trans (hj k (by omega)))) ?_
                  refine a_callS (As := [ii_v (((S.getD k 0) : Nat) : Int)]) C (m_isDrop hl g1 w (S.getD k 0) (by omega)) co_X10_isDrop in_X10 ml_X10_135 sc_X10_isDrop ar_X10_isDrop ⟨by decide, by decide, by decide, by decide⟩ rfl (Nat.le_of_ble_eq_true rfl) dX10_fault_160 (a_dR ?_) a_nR
                  rw [md_iff (P := (S.getD k 0) % 2 = 0)]
                  refine a_bif_eq (tgt := 199) C dX10_fault_163 rfl (fun h163 => ?_) (fun h163 => ?_)
                  · skip
                    refine a_iconst C dX10_fault_199 ?_
                    refine a_top (w := ii_v (if (!decide ((S.getD k 0) % 2 = 0) && decide (v 4 ((S.getD k 0) / 2) < T.getD k 0 - pl_since v S T (S.getD k 0))) = true then 1 else 0)) (by first | exact bt_0 (by rw [decide_eq_true (p := (S.getD k 0) % 2 = 0) hpar]; rfl) | exact bt_1 (by rw [decide_eq_false (p := (S.getD k 0) % 2 = 0) hpar, decide_eq_true (p := v 4 ((S.getD k 0) / 2) < T.getD k 0 - pl_since v S T (S.getD k 0)) (by omega)]; rfl) | exact bt_0 (by rw [decide_eq_false (p := (S.getD k 0) % 2 = 0) hpar, decide_eq_false (p := v 4 ((S.getD k 0) / 2) < T.getD k 0 - pl_since v S T (S.getD k 0)) (by omega)]; rfl)) ?_
                    refine a_ior (b := (if (D || (!decide ((S.getD k 0) % 2 = 0) && decide (v 4 ((S.getD k 0) / 2) < T.getD k 0 - pl_since v S T (S.getD k 0)))) = true then 1 else 0)) C dX10_fault_200 (ii_or _ _) ?_
                    refine a_istore (L' := [(0, .ref (ad 40)), (1, ii_v ((b : Nat) : Int)), (2, ii_v (pl_len v (f 46 b) (f 47 b) S (f 44 b) (f 45 b))), (3, ii_v (ri + pl_mv v (S.getD k 0))), (4, ii_v (if (A || (decide (f 41 b < ri + pl_mv v (S.getD k 0)))) = true then 1 else 0)), (5, ii_v (if (B || (decide ((S.getD k 0) % 2 = 0) && decide (v 3 ((S.getD k 0) / 2) < T.getD k 0))) = true then 1 else 0)), (6, ii_v (if (D || (!decide ((S.getD k 0) % 2 = 0) && decide (v 4 ((S.getD k 0) / 2) < T.getD k 0 - pl_since v S T (S.getD k 0)))) = true then 1 else 0)), (7, ii_v ((k : Nat) : Int)), (8, ii_v ((((S.getD k 0) : Nat) : Int) / 2))]) C dX10_fault_201 (by decide) rfl ?_
                    refine a_iinc (L' := [(0, .ref (ad 40)), (1, ii_v ((b : Nat) : Int)), (2, ii_v (pl_len v (f 46 b) (f 47 b) S (f 44 b) (f 45 b))), (3, ii_v (ri + pl_mv v (S.getD k 0))), (4, ii_v (if (A || (decide (f 41 b < ri + pl_mv v (S.getD k 0)))) = true then 1 else 0)), (5, ii_v (if (B || (decide ((S.getD k 0) % 2 = 0) && decide (v 3 ((S.getD k 0) / 2) < T.getD k 0))) = true then 1 else 0)), (6, ii_v (if (D || (!decide ((S.getD k 0) % 2 = 0) && decide (v 4 ((S.getD k 0) / 2) < T.getD k 0 - pl_since v S T (S.getD k 0)))) = true then 1 else 0)), (7, ii_v (((k : Nat) : Int) + 1)), (8, ii_v ((((S.getD k 0) : Nat) : Int) / 2))]) C dX10_fault_203 rfl (by decide) rfl ?_
                    refine a_goto (tgt := 37) C dX10_fault_206 rfl ?_
                    refine a_pick [0, 1, 2, 3, 4, 5, 6, 7] (L2 := [(0, .ref (ad 40)), (1, ii_v ((b : Nat) : Int)), (2, ii_v (pl_len v (f 46 b) (f 47 b) S (f 44 b) (f 45 b))), (3, ii_v (ri + pl_mv v (S.getD k 0))), (4, ii_v (if (A || (decide (f 41 b < ri + pl_mv v (S.getD k 0)))) = true then 1 else 0)), (5, ii_v (if (B || (decide ((S.getD k 0) % 2 = 0) && decide (v 3 ((S.getD k 0) / 2) < T.getD k 0))) = true then 1 else 0)), (6, ii_v (if (D || (!decide ((S.getD k 0) % 2 = 0) && decide (v 4 ((S.getD k 0) / 2) < T.getD k 0 - pl_since v S T (S.getD k 0)))) = true then 1 else 0)), (7, ii_v (((k : Nat) : Int) + 1))]) rfl ?_
                    exact ih37 (k + 1) (ri + pl_mv v (S.getD k 0)) (A || (decide (f 41 b < ri + pl_mv v (S.getD k 0)))) (B || (decide ((S.getD k 0) % 2 = 0) && decide (v 3 ((S.getD k 0) / 2) < T.getD k 0))) (D || (!decide ((S.getD k 0) % 2 = 0) && decide (v 4 ((S.getD k 0) / 2) < T.getD k 0 - pl_since v S T (S.getD k 0)))) (by omega) (by omega) (by omega) (by rw [← hA, ls_drop (k := k) (by omega), pl_seat, Bool.or_assoc]) (by rw [← hBb, ls_drop (k := k) (by omega), lt_drop (k := k) (by omega), pl_late, Bool.or_assoc]) (by rw [← hDd, ls_drop (k := k) (by omega), lt_drop (k := k) (by omega), pl_long, Bool.or_assoc])
                  · skip
                    exact absurd hpar h163
            · skip
              refine a_iconst C dX10_fault_103 ?_
              refine a_goto (tgt := 108) C dX10_fault_104 rfl ?_
              refine a_top (w := ii_v (if (decide (f 41 b < ri + pl_mv v (S.getD k 0))) = true then 1 else 0)) (by first | exact bt_1 (by first | exact decide_eq_true (by omega) | simp_all) | exact bt_0 (by first | exact decide_eq_false (by omega) | simp_all)) ?_
              refine a_ior (b := (if (A || (decide (f 41 b < ri + pl_mv v (S.getD k 0)))) = true then 1 else 0)) C dX10_fault_108 (ii_or _ _) ?_
              refine a_istore (L' := [(0, .ref (ad 40)), (1, ii_v ((b : Nat) : Int)), (2, ii_v (pl_len v (f 46 b) (f 47 b) S (f 44 b) (f 45 b))), (3, ii_v (ri + pl_mv v (S.getD k 0))), (4, ii_v (if (A || (decide (f 41 b < ri + pl_mv v (S.getD k 0)))) = true then 1 else 0)), (5, ii_v (if B = true then 1 else 0)), (6, ii_v (if D = true then 1 else 0)), (7, ii_v ((k : Nat) : Int)), (8, ii_v ((((S.getD k 0) : Nat) : Int) / 2))]) C dX10_fault_109 (by decide) rfl ?_
              refine a_iload C dX10_fault_111 rfl ?_
              refine a_aload_n C dX10_fault_113 rfl ?_
              refine a_get (ci := 11) (i := 35) (v := .ref (ad 75)) C iw_X10 rfl (by decide) rfl fl_X10_102 rfl rfl dX10_fault_114 ?_
              refine a_iload C dX10_fault_117 rfl ?_
              refine a_iald (o := 75) (N := 8) k C dX10_fault_119 rfl (by omega) (by omega) (by decide) ?_
              refine a_top (w := ii_v (g1 75 k)) rfl ?_
              refine a_top (w := ii_v ((S.getD k 0 : Nat) : Int)) (congrArg (fun q => ii_v q) ((congrFun (hfg1 75 (by decide)) _).trans (hj k (by omega)))) ?_
              refine a_callS (As := [ii_v (((S.getD k 0) : Nat) : Int)]) C (m_isDrop hl g1 w (S.getD k 0) (by omega)) co_X10_isDrop in_X10 ml_X10_135 sc_X10_isDrop ar_X10_isDrop ⟨by decide, by decide, by decide, by decide⟩ rfl (Nat.le_of_ble_eq_true rfl) dX10_fault_120 (a_dR ?_) a_nR
              rw [md_iff (P := (S.getD k 0) % 2 = 0)]
              refine a_bif_ne (tgt := 147) C dX10_fault_123 rfl (fun h123 => ?_) (fun h123 => ?_)
              · skip
                exact absurd hpar h123
              · skip
                refine a_aload_n C dX10_fault_126 rfl ?_
                refine a_get (ci := 11) (i := 36) (v := .ref (ad 76)) C iw_X10 rfl (by decide) rfl fl_X10_105 rfl rfl dX10_fault_127 ?_
                refine a_iload C dX10_fault_130 rfl ?_
                refine a_iald (o := 76) (N := 8) k C dX10_fault_132 rfl (by omega) (by omega) (by decide) ?_
                refine a_top (w := ii_v (g1 76 k)) rfl ?_
                refine a_top (w := ii_v (T.getD k 0)) (congrArg (fun q => ii_v q) (hTg1 k (by omega))) ?_
                refine a_aload_n C dX10_fault_133 rfl ?_
                refine a_get (ci := 11) (i := 18) (v := .ref (ad 58)) C iw_X10 rfl (by decide) rfl fl_X10_61 rfl rfl dX10_fault_134 ?_
                refine a_iload C dX10_fault_137 rfl ?_
                refine a_iald (o := 58) (N := 31) ((S.getD k 0) / 2) C dX10_fault_139 rfl (by omega) (by omega) (by decide) ?_
                refine a_top (w := ii_v (g1 58 ((S.getD k 0) / 2))) rfl ?_
                refine a_top (w := ii_v (v 3 ((S.getD k 0) / 2))) (congrArg (fun q => ii_v q) ((congrFun (hfg1 58 (by decide)) _).trans (hv.2 ((S.getD k 0) / 2) (by omega)).2.1)) ?_
                refine a_icmp_le (tgt := 147) C dX10_fault_140 rfl (by unfold ii_B; omega) (by unfold ii_B; omega) (fun h140 => ?_) (fun h140 => ?_)
                · skip
                  refine a_iconst C dX10_fault_147 ?_
                  refine a_top (w := ii_v (if (decide ((S.getD k 0) % 2 = 0) && decide (v 3 ((S.getD k 0) / 2) < T.getD k 0)) = true then 1 else 0)) (by first | exact bt_1 (by rw [decide_eq_true (p := (S.getD k 0) % 2 = 0) hpar, decide_eq_true (p := v 3 ((S.getD k 0) / 2) < T.getD k 0) (by omega)]; rfl) | exact bt_0 (by rw [decide_eq_true (p := (S.getD k 0) % 2 = 0) hpar, decide_eq_false (p := v 3 ((S.getD k 0) / 2) < T.getD k 0) (by omega)]; rfl) | exact bt_0 (by rw [decide_eq_false (p := (S.getD k 0) % 2 = 0) hpar]; rfl)) ?_
                  refine a_ior (b := (if (B || (decide ((S.getD k 0) % 2 = 0) && decide (v 3 ((S.getD k 0) / 2) < T.getD k 0))) = true then 1 else 0)) C dX10_fault_148 (ii_or _ _) ?_
                  refine a_istore (L' := [(0, .ref (ad 40)), (1, ii_v ((b : Nat) : Int)), (2, ii_v (pl_len v (f 46 b) (f 47 b) S (f 44 b) (f 45 b))), (3, ii_v (ri + pl_mv v (S.getD k 0))), (4, ii_v (if (A || (decide (f 41 b < ri + pl_mv v (S.getD k 0)))) = true then 1 else 0)), (5, ii_v (if (B || (decide ((S.getD k 0) % 2 = 0) && decide (v 3 ((S.getD k 0) / 2) < T.getD k 0))) = true then 1 else 0)), (6, ii_v (if D = true then 1 else 0)), (7, ii_v ((k : Nat) : Int)), (8, ii_v ((((S.getD k 0) : Nat) : Int) / 2))]) C dX10_fault_149 (by decide) rfl ?_
                  refine a_iload C dX10_fault_151 rfl ?_
                  refine a_aload_n C dX10_fault_153 rfl ?_
                  refine a_get (ci := 11) (i := 35) (v := .ref (ad 75)) C iw_X10 rfl (by decide) rfl fl_X10_102 rfl rfl dX10_fault_154 ?_
                  refine a_iload C dX10_fault_157 rfl ?_
                  refine a_iald (o := 75) (N := 8) k C dX10_fault_159 rfl (by omega) (by omega) (by decide) ?_
                  refine a_top (w := ii_v (g1 75 k)) rfl ?_
                  refine a_top (w := ii_v ((S.getD k 0 : Nat) : Int)) (congrArg (fun q => ii_v q) ((congrFun (hfg1 75 (by decide)) _).trans (hj k (by omega)))) ?_
                  refine a_callS (As := [ii_v (((S.getD k 0) : Nat) : Int)]) C (m_isDrop hl g1 w (S.getD k 0) (by omega)) co_X10_isDrop in_X10 ml_X10_135 sc_X10_isDrop ar_X10_isDrop ⟨by decide, by decide, by decide, by decide⟩ rfl (Nat.le_of_ble_eq_true rfl) dX10_fault_160 (a_dR ?_) a_nR
                  rw [md_iff (P := (S.getD k 0) % 2 = 0)]
                  refine a_bif_eq (tgt := 199) C dX10_fault_163 rfl (fun h163 => ?_) (fun h163 => ?_)
                  · skip
                    refine a_iconst C dX10_fault_199 ?_
                    refine a_top (w := ii_v (if (!decide ((S.getD k 0) % 2 = 0) && decide (v 4 ((S.getD k 0) / 2) < T.getD k 0 - pl_since v S T (S.getD k 0))) = true then 1 else 0)) (by first | exact bt_0 (by rw [decide_eq_true (p := (S.getD k 0) % 2 = 0) hpar]; rfl) | exact bt_1 (by rw [decide_eq_false (p := (S.getD k 0) % 2 = 0) hpar, decide_eq_true (p := v 4 ((S.getD k 0) / 2) < T.getD k 0 - pl_since v S T (S.getD k 0)) (by omega)]; rfl) | exact bt_0 (by rw [decide_eq_false (p := (S.getD k 0) % 2 = 0) hpar, decide_eq_false (p := v 4 ((S.getD k 0) / 2) < T.getD k 0 - pl_since v S T (S.getD k 0)) (by omega)]; rfl)) ?_
                    refine a_ior (b := (if (D || (!decide ((S.getD k 0) % 2 = 0) && decide (v 4 ((S.getD k 0) / 2) < T.getD k 0 - pl_since v S T (S.getD k 0)))) = true then 1 else 0)) C dX10_fault_200 (ii_or _ _) ?_
                    refine a_istore (L' := [(0, .ref (ad 40)), (1, ii_v ((b : Nat) : Int)), (2, ii_v (pl_len v (f 46 b) (f 47 b) S (f 44 b) (f 45 b))), (3, ii_v (ri + pl_mv v (S.getD k 0))), (4, ii_v (if (A || (decide (f 41 b < ri + pl_mv v (S.getD k 0)))) = true then 1 else 0)), (5, ii_v (if (B || (decide ((S.getD k 0) % 2 = 0) && decide (v 3 ((S.getD k 0) / 2) < T.getD k 0))) = true then 1 else 0)), (6, ii_v (if (D || (!decide ((S.getD k 0) % 2 = 0) && decide (v 4 ((S.getD k 0) / 2) < T.getD k 0 - pl_since v S T (S.getD k 0)))) = true then 1 else 0)), (7, ii_v ((k : Nat) : Int)), (8, ii_v ((((S.getD k 0) : Nat) : Int) / 2))]) C dX10_fault_201 (by decide) rfl ?_
                    refine a_iinc (L' := [(0, .ref (ad 40)), (1, ii_v ((b : Nat) : Int)), (2, ii_v (pl_len v (f 46 b) (f 47 b) S (f 44 b) (f 45 b))), (3, ii_v (ri + pl_mv v (S.getD k 0))), (4, ii_v (if (A || (decide (f 41 b < ri + pl_mv v (S.getD k 0)))) = true then 1 else 0)), (5, ii_v (if (B || (decide ((S.getD k 0) % 2 = 0) && decide (v 3 ((S.getD k 0) / 2) < T.getD k 0))) = true then 1 else 0)), (6, ii_v (if (D || (!decide ((S.getD k 0) % 2 = 0) && decide (v 4 ((S.getD k 0) / 2) < T.getD k 0 - pl_since v S T (S.getD k 0)))) = true then 1 else 0)), (7, ii_v (((k : Nat) : Int) + 1)), (8, ii_v ((((S.getD k 0) : Nat) : Int) / 2))]) C dX10_fault_203 rfl (by decide) rfl ?_
                    refine a_goto (tgt := 37) C dX10_fault_206 rfl ?_
                    refine a_pick [0, 1, 2, 3, 4, 5, 6, 7] (L2 := [(0, .ref (ad 40)), (1, ii_v ((b : Nat) : Int)), (2, ii_v (pl_len v (f 46 b) (f 47 b) S (f 44 b) (f 45 b))), (3, ii_v (ri + pl_mv v (S.getD k 0))), (4, ii_v (if (A || (decide (f 41 b < ri + pl_mv v (S.getD k 0)))) = true then 1 else 0)), (5, ii_v (if (B || (decide ((S.getD k 0) % 2 = 0) && decide (v 3 ((S.getD k 0) / 2) < T.getD k 0))) = true then 1 else 0)), (6, ii_v (if (D || (!decide ((S.getD k 0) % 2 = 0) && decide (v 4 ((S.getD k 0) / 2) < T.getD k 0 - pl_since v S T (S.getD k 0)))) = true then 1 else 0)), (7, ii_v (((k : Nat) : Int) + 1))]) rfl ?_
                    exact ih37 (k + 1) (ri + pl_mv v (S.getD k 0)) (A || (decide (f 41 b < ri + pl_mv v (S.getD k 0)))) (B || (decide ((S.getD k 0) % 2 = 0) && decide (v 3 ((S.getD k 0) / 2) < T.getD k 0))) (D || (!decide ((S.getD k 0) % 2 = 0) && decide (v 4 ((S.getD k 0) / 2) < T.getD k 0 - pl_since v S T (S.getD k 0)))) (by omega) (by omega) (by omega) (by rw [← hA, ls_drop (k := k) (by omega), pl_seat, Bool.or_assoc]) (by rw [← hBb, ls_drop (k := k) (by omega), lt_drop (k := k) (by omega), pl_late, Bool.or_assoc]) (by rw [← hDd, ls_drop (k := k) (by omega), lt_drop (k := k) (by omega), pl_long, Bool.or_assoc])
                  · skip
                    exact absurd hpar h163
                · skip
                  refine a_iconst C dX10_fault_143 ?_
                  refine a_goto (tgt := 148) C dX10_fault_144 rfl ?_
                  refine a_top (w := ii_v (if (decide ((S.getD k 0) % 2 = 0) && decide (v 3 ((S.getD k 0) / 2) < T.getD k 0)) = true then 1 else 0)) (by first | exact bt_1 (by rw [decide_eq_true (p := (S.getD k 0) % 2 = 0) hpar, decide_eq_true (p := v 3 ((S.getD k 0) / 2) < T.getD k 0) (by omega)]; rfl) | exact bt_0 (by rw [decide_eq_true (p := (S.getD k 0) % 2 = 0) hpar, decide_eq_false (p := v 3 ((S.getD k 0) / 2) < T.getD k 0) (by omega)]; rfl) | exact bt_0 (by rw [decide_eq_false (p := (S.getD k 0) % 2 = 0) hpar]; rfl)) ?_
                  refine a_ior (b := (if (B || (decide ((S.getD k 0) % 2 = 0) && decide (v 3 ((S.getD k 0) / 2) < T.getD k 0))) = true then 1 else 0)) C dX10_fault_148 (ii_or _ _) ?_
                  refine a_istore (L' := [(0, .ref (ad 40)), (1, ii_v ((b : Nat) : Int)), (2, ii_v (pl_len v (f 46 b) (f 47 b) S (f 44 b) (f 45 b))), (3, ii_v (ri + pl_mv v (S.getD k 0))), (4, ii_v (if (A || (decide (f 41 b < ri + pl_mv v (S.getD k 0)))) = true then 1 else 0)), (5, ii_v (if (B || (decide ((S.getD k 0) % 2 = 0) && decide (v 3 ((S.getD k 0) / 2) < T.getD k 0))) = true then 1 else 0)), (6, ii_v (if D = true then 1 else 0)), (7, ii_v ((k : Nat) : Int)), (8, ii_v ((((S.getD k 0) : Nat) : Int) / 2))]) C dX10_fault_149 (by decide) rfl ?_
                  refine a_iload C dX10_fault_151 rfl ?_
                  refine a_aload_n C dX10_fault_153 rfl ?_
                  refine a_get (ci := 11) (i := 35) (v := .ref (ad 75)) C iw_X10 rfl (by decide) rfl fl_X10_102 rfl rfl dX10_fault_154 ?_
                  refine a_iload C dX10_fault_157 rfl ?_
                  refine a_iald (o := 75) (N := 8) k C dX10_fault_159 rfl (by omega) (by omega) (by decide) ?_
                  refine a_top (w := ii_v (g1 75 k)) rfl ?_
                  refine a_top (w := ii_v ((S.getD k 0 : Nat) : Int)) (congrArg (fun q => ii_v q) ((congrFun (hfg1 75 (by decide)) _).trans (hj k (by omega)))) ?_
                  refine a_callS (As := [ii_v (((S.getD k 0) : Nat) : Int)]) C (m_isDrop hl g1 w (S.getD k 0) (by omega)) co_X10_isDrop in_X10 ml_X10_135 sc_X10_isDrop ar_X10_isDrop ⟨by decide, by decide, by decide, by decide⟩ rfl (Nat.le_of_ble_eq_true rfl) dX10_fault_160 (a_dR ?_) a_nR
                  rw [md_iff (P := (S.getD k 0) % 2 = 0)]
                  refine a_bif_eq (tgt := 199) C dX10_fault_163 rfl (fun h163 => ?_) (fun h163 => ?_)
                  · skip
                    refine a_iconst C dX10_fault_199 ?_
                    refine a_top (w := ii_v (if (!decide ((S.getD k 0) % 2 = 0) && decide (v 4 ((S.getD k 0) / 2) < T.getD k 0 - pl_since v S T (S.getD k 0))) = true then 1 else 0)) (by first | exact bt_0 (by rw [decide_eq_true (p := (S.getD k 0) % 2 = 0) hpar]; rfl) | exact bt_1 (by rw [decide_eq_false (p := (S.getD k 0) % 2 = 0) hpar, decide_eq_true (p := v 4 ((S.getD k 0) / 2) < T.getD k 0 - pl_since v S T (S.getD k 0)) (by omega)]; rfl) | exact bt_0 (by rw [decide_eq_false (p := (S.getD k 0) % 2 = 0) hpar, decide_eq_false (p := v 4 ((S.getD k 0) / 2) < T.getD k 0 - pl_since v S T (S.getD k 0)) (by omega)]; rfl)) ?_
                    refine a_ior (b := (if (D || (!decide ((S.getD k 0) % 2 = 0) && decide (v 4 ((S.getD k 0) / 2) < T.getD k 0 - pl_since v S T (S.getD k 0)))) = true then 1 else 0)) C dX10_fault_200 (ii_or _ _) ?_
                    refine a_istore (L' := [(0, .ref (ad 40)), (1, ii_v ((b : Nat) : Int)), (2, ii_v (pl_len v (f 46 b) (f 47 b) S (f 44 b) (f 45 b))), (3, ii_v (ri + pl_mv v (S.getD k 0))), (4, ii_v (if (A || (decide (f 41 b < ri + pl_mv v (S.getD k 0)))) = true then 1 else 0)), (5, ii_v (if (B || (decide ((S.getD k 0) % 2 = 0) && decide (v 3 ((S.getD k 0) / 2) < T.getD k 0))) = true then 1 else 0)), (6, ii_v (if (D || (!decide ((S.getD k 0) % 2 = 0) && decide (v 4 ((S.getD k 0) / 2) < T.getD k 0 - pl_since v S T (S.getD k 0)))) = true then 1 else 0)), (7, ii_v ((k : Nat) : Int)), (8, ii_v ((((S.getD k 0) : Nat) : Int) / 2))]) C dX10_fault_201 (by decide) rfl ?_
                    refine a_iinc (L' := [(0, .ref (ad 40)), (1, ii_v ((b : Nat) : Int)), (2, ii_v (pl_len v (f 46 b) (f 47 b) S (f 44 b) (f 45 b))), (3, ii_v (ri + pl_mv v (S.getD k 0))), (4, ii_v (if (A || (decide (f 41 b < ri + pl_mv v (S.getD k 0)))) = true then 1 else 0)), (5, ii_v (if (B || (decide ((S.getD k 0) % 2 = 0) && decide (v 3 ((S.getD k 0) / 2) < T.getD k 0))) = true then 1 else 0)), (6, ii_v (if (D || (!decide ((S.getD k 0) % 2 = 0) && decide (v 4 ((S.getD k 0) / 2) < T.getD k 0 - pl_since v S T (S.getD k 0)))) = true then 1 else 0)), (7, ii_v (((k : Nat) : Int) + 1)), (8, ii_v ((((S.getD k 0) : Nat) : Int) / 2))]) C dX10_fault_203 rfl (by decide) rfl ?_
                    refine a_goto (tgt := 37) C dX10_fault_206 rfl ?_
                    refine a_pick [0, 1, 2, 3, 4, 5, 6, 7] (L2 := [(0, .ref (ad 40)), (1, ii_v ((b : Nat) : Int)), (2, ii_v (pl_len v (f 46 b) (f 47 b) S (f 44 b) (f 45 b))), (3, ii_v (ri + pl_mv v (S.getD k 0))), (4, ii_v (if (A || (decide (f 41 b < ri + pl_mv v (S.getD k 0)))) = true then 1 else 0)), (5, ii_v (if (B || (decide ((S.getD k 0) % 2 = 0) && decide (v 3 ((S.getD k 0) / 2) < T.getD k 0))) = true then 1 else 0)), (6, ii_v (if (D || (!decide ((S.getD k 0) % 2 = 0) && decide (v 4 ((S.getD k 0) / 2) < T.getD k 0 - pl_since v S T (S.getD k 0)))) = true then 1 else 0)), (7, ii_v (((k : Nat) : Int) + 1))]) rfl ?_
                    exact ih37 (k + 1) (ri + pl_mv v (S.getD k 0)) (A || (decide (f 41 b < ri + pl_mv v (S.getD k 0)))) (B || (decide ((S.getD k 0) % 2 = 0) && decide (v 3 ((S.getD k 0) / 2) < T.getD k 0))) (D || (!decide ((S.getD k 0) % 2 = 0) && decide (v 4 ((S.getD k 0) / 2) < T.getD k 0 - pl_since v S T (S.getD k 0)))) (by omega) (by omega) (by omega) (by rw [← hA, ls_drop (k := k) (by omega), pl_seat, Bool.or_assoc]) (by rw [← hBb, ls_drop (k := k) (by omega), lt_drop (k := k) (by omega), pl_late, Bool.or_assoc]) (by rw [← hDd, ls_drop (k := k) (by omega), lt_drop (k := k) (by omega), pl_long, Bool.or_assoc])
                  · skip
                    exact absurd hpar h163
          · skip
            have hpar := h68
            refine a_aload_n C dX10_fault_71 rfl ?_
            refine a_get (ci := 11) (i := 17) (v := .ref (ad 57)) C iw_X10 rfl (by decide) rfl fl_X10_58 rfl rfl dX10_fault_72 ?_
            refine a_iload C dX10_fault_75 rfl ?_
            refine a_iald (o := 57) (N := 31) ((S.getD k 0) / 2) C dX10_fault_77 rfl (by omega) (by omega) (by decide) ?_
            refine a_top (w := ii_v (g1 57 ((S.getD k 0) / 2))) rfl ?_
            refine a_top (w := ii_v (v 2 ((S.getD k 0) / 2))) (congrArg (fun q => ii_v q) ((congrFun (hfg1 57 (by decide)) _).trans (hv.2 ((S.getD k 0) / 2) (by omega)).1)) ?_
            refine a_ineg C dX10_fault_78 ?_
            refine a_goto (tgt := 89) C dX10_fault_79 rfl ?_
            refine a_iadd C dX10_fault_89 ?_
            refine a_top (w := ii_v (ri + pl_mv v (S.getD k 0))) (by unfold pl_mv; first | rw [if_pos hpar] | rw [if_neg hpar]) ?_
            refine a_istore_n (L' := [(0, .ref (ad 40)), (1, ii_v ((b : Nat) : Int)), (2, ii_v (pl_len v (f 46 b) (f 47 b) S (f 44 b) (f 45 b))), (3, ii_v (ri + pl_mv v (S.getD k 0))), (4, ii_v (if A = true then 1 else 0)), (5, ii_v (if B = true then 1 else 0)), (6, ii_v (if D = true then 1 else 0)), (7, ii_v ((k : Nat) : Int)), (8, ii_v ((((S.getD k 0) : Nat) : Int) / 2))]) C dX10_fault_90 (by decide) rfl ?_
            refine a_iload C dX10_fault_91 rfl ?_
            refine a_iload_n C dX10_fault_93 rfl ?_
            refine a_aload_n C dX10_fault_94 rfl ?_
            refine a_get (ci := 11) (i := 1) (v := .ref (ad 41)) C iw_X10 rfl (by decide) rfl fl_X10_9 rfl rfl dX10_fault_95 ?_
            refine a_iload_n C dX10_fault_98 rfl ?_
            refine a_iald (o := 41) (N := 4) b C dX10_fault_99 rfl (by omega) (by omega) (by decide) ?_
            refine a_top (w := ii_v (g1 41 b)) rfl ?_
            refine a_top (w := ii_v (f 41 b)) (congrArg (fun q => ii_v q) (congrFun (hfg1 41 (by decide)) _)) ?_
            refine a_icmp_le (tgt := 107) C dX10_fault_100 rfl (by unfold ii_B; omega) (by unfold ii_B; omega) (fun h100 => ?_) (fun h100 => ?_)
            · skip
              refine a_iconst C dX10_fault_107 ?_
              refine a_top (w := ii_v (if (decide (f 41 b < ri + pl_mv v (S.getD k 0))) = true then 1 else 0)) (by first | exact bt_1 (by first | exact decide_eq_true (by omega) | simp_all) | exact bt_0 (by first | exact decide_eq_false (by omega) | simp_all)) ?_
              refine a_ior (b := (if (A || (decide (f 41 b < ri + pl_mv v (S.getD k 0)))) = true then 1 else 0)) C dX10_fault_108 (ii_or _ _) ?_
              refine a_istore (L' := [(0, .ref (ad 40)), (1, ii_v ((b : Nat) : Int)), (2, ii_v (pl_len v (f 46 b) (f 47 b) S (f 44 b) (f 45 b))), (3, ii_v (ri + pl_mv v (S.getD k 0))), (4, ii_v (if (A || (decide (f 41 b < ri + pl_mv v (S.getD k 0)))) = true then 1 else 0)), (5, ii_v (if B = true then 1 else 0)), (6, ii_v (if D = true then 1 else 0)), (7, ii_v ((k : Nat) : Int)), (8, ii_v ((((S.getD k 0) : Nat) : Int) / 2))]) C dX10_fault_109 (by decide) rfl ?_
              refine a_iload C dX10_fault_111 rfl ?_
              refine a_aload_n C dX10_fault_113 rfl ?_
              refine a_get (ci := 11) (i := 35) (v := .ref (ad 75)) C iw_X10 rfl (by decide) rfl fl_X10_102 rfl rfl dX10_fault_114 ?_
              refine a_iload C dX10_fault_117 rfl ?_
              refine a_iald (o := 75) (N := 8) k C dX10_fault_119 rfl (by omega) (by omega) (by decide) ?_
              refine a_top (w := ii_v (g1 75 k)) rfl ?_
              refine a_top (w := ii_v ((S.getD k 0 : Nat) : Int)) (congrArg (fun q => ii_v q) ((congrFun (hfg1 75 (by decide)) _).trans (hj k (by omega)))) ?_
              refine a_callS (As := [ii_v (((S.getD k 0) : Nat) : Int)]) C (m_isDrop hl g1 w (S.getD k 0) (by omega)) co_X10_isDrop in_X10 ml_X10_135 sc_X10_isDrop ar_X10_isDrop ⟨by decide, by decide, by decide, by decide⟩ rfl (Nat.le_of_ble_eq_true rfl) dX10_fault_120 (a_dR ?_) a_nR
              rw [md_iff (P := (S.getD k 0) % 2 = 0)]
              refine a_bif_ne (tgt := 147) C dX10_fault_123 rfl (fun h123 => ?_) (fun h123 => ?_)
              · skip
                refine a_iconst C dX10_fault_147 ?_
                refine a_top (w := ii_v (if (decide ((S.getD k 0) % 2 = 0) && decide (v 3 ((S.getD k 0) / 2) < T.getD k 0)) = true then 1 else 0)) (by first | exact bt_1 (by rw [decide_eq_true (p := (S.getD k 0) % 2 = 0) hpar, decide_eq_true (p := v 3 ((S.getD k 0) / 2) < T.getD k 0) (by omega)]; rfl) | exact bt_0 (by rw [decide_eq_true (p := (S.getD k 0) % 2 = 0) hpar, decide_eq_false (p := v 3 ((S.getD k 0) / 2) < T.getD k 0) (by omega)]; rfl) | exact bt_0 (by rw [decide_eq_false (p := (S.getD k 0) % 2 = 0) hpar]; rfl)) ?_
                refine a_ior (b := (if (B || (decide ((S.getD k 0) % 2 = 0) && decide (v 3 ((S.getD k 0) / 2) < T.getD k 0))) = true then 1 else 0)) C dX10_fault_148 (ii_or _ _) ?_
                refine a_istore (L' := [(0, .ref (ad 40)), (1, ii_v ((b : Nat) : Int)), (2, ii_v (pl_len v (f 46 b) (f 47 b) S (f 44 b) (f 45 b))), (3, ii_v (ri + pl_mv v (S.getD k 0))), (4, ii_v (if (A || (decide (f 41 b < ri + pl_mv v (S.getD k 0)))) = true then 1 else 0)), (5, ii_v (if (B || (decide ((S.getD k 0) % 2 = 0) && decide (v 3 ((S.getD k 0) / 2) < T.getD k 0))) = true then 1 else 0)), (6, ii_v (if D = true then 1 else 0)), (7, ii_v ((k : Nat) : Int)), (8, ii_v ((((S.getD k 0) : Nat) : Int) / 2))]) C dX10_fault_149 (by decide) rfl ?_
                refine a_iload C dX10_fault_151 rfl ?_
                refine a_aload_n C dX10_fault_153 rfl ?_
                refine a_get (ci := 11) (i := 35) (v := .ref (ad 75)) C iw_X10 rfl (by decide) rfl fl_X10_102 rfl rfl dX10_fault_154 ?_
                refine a_iload C dX10_fault_157 rfl ?_
                refine a_iald (o := 75) (N := 8) k C dX10_fault_159 rfl (by omega) (by omega) (by decide) ?_
                refine a_top (w := ii_v (g1 75 k)) rfl ?_
                refine a_top (w := ii_v ((S.getD k 0 : Nat) : Int)) (congrArg (fun q => ii_v q) ((congrFun (hfg1 75 (by decide)) _).trans (hj k (by omega)))) ?_
                refine a_callS (As := [ii_v (((S.getD k 0) : Nat) : Int)]) C (m_isDrop hl g1 w (S.getD k 0) (by omega)) co_X10_isDrop in_X10 ml_X10_135 sc_X10_isDrop ar_X10_isDrop ⟨by decide, by decide, by decide, by decide⟩ rfl (Nat.le_of_ble_eq_true rfl) dX10_fault_160 (a_dR ?_) a_nR
                rw [md_iff (P := (S.getD k 0) % 2 = 0)]
                refine a_bif_eq (tgt := 199) C dX10_fault_163 rfl (fun h163 => ?_) (fun h163 => ?_)
                · skip
                  exact absurd hpar h163
                · skip
                  refine a_aload_n C dX10_fault_166 rfl ?_
                  refine a_get (ci := 11) (i := 36) (v := .ref (ad 76)) C iw_X10 rfl (by decide) rfl fl_X10_105 rfl rfl dX10_fault_167 ?_
                  refine a_iload C dX10_fault_170 rfl ?_
                  refine a_iald (o := 76) (N := 8) k C dX10_fault_172 rfl (by omega) (by omega) (by decide) ?_
                  refine a_top (w := ii_v (g1 76 k)) rfl ?_
                  refine a_top (w := ii_v (T.getD k 0)) (congrArg (fun q => ii_v q) (hTg1 k (by omega))) ?_
                  refine a_aload_n C dX10_fault_173 rfl ?_
                  refine a_aload_n C dX10_fault_174 rfl ?_
                  refine a_get (ci := 11) (i := 35) (v := .ref (ad 75)) C iw_X10 rfl (by decide) rfl fl_X10_102 rfl rfl dX10_fault_175 ?_
                  refine a_iload C dX10_fault_178 rfl ?_
                  refine a_iald (o := 75) (N := 8) k C dX10_fault_180 rfl (by omega) (by omega) (by decide) ?_
                  refine a_top (w := ii_v (g1 75 k)) rfl ?_
                  refine a_top (w := ii_v ((S.getD k 0 : Nat) : Int)) (congrArg (fun q => ii_v q) ((congrFun (hfg1 75 (by decide)) _).trans (hj k (by omega)))) ?_
                  refine a_callV (o := 40) (As := [ii_v (((S.getD k 0) : Nat) : Int)]) C (m_pickupOf hl g1 w hvp (tr_same hS (hfg1 40 (by decide)) (hfg1 75 (by decide))) hq T hTg1 (S.getD k 0) (by omega) hpar) co_X10_pickupOf in_X10 ml_X10_166 im_X10_pickupOf se_X10_pickupOf rfl rfl ar_X10_pickupOf ⟨by decide, by decide, by decide, by decide⟩ rfl (Nat.le_of_ble_eq_true rfl) dX10_fault_181 (a_dR ?_) a_nR
                  have hsb : 0 ≤ pl_since v S T (S.getD k 0) ∧ pl_since v S T (S.getD k 0) ≤ 200000 := ls_sinceM hTb hv (by omega)
                  refine a_isub C dX10_fault_184 ?_
                  refine a_aload_n C dX10_fault_185 rfl ?_
                  refine a_get (ci := 11) (i := 19) (v := .ref (ad 59)) C iw_X10 rfl (by decide) rfl fl_X10_64 rfl rfl dX10_fault_186 ?_
                  refine a_iload C dX10_fault_189 rfl ?_
                  refine a_iald (o := 59) (N := 31) ((S.getD k 0) / 2) C dX10_fault_191 rfl (by omega) (by omega) (by decide) ?_
                  refine a_top (w := ii_v (g1 59 ((S.getD k 0) / 2))) rfl ?_
                  refine a_top (w := ii_v (v 4 ((S.getD k 0) / 2))) (congrArg (fun q => ii_v q) ((congrFun (hfg1 59 (by decide)) _).trans (hv.2 ((S.getD k 0) / 2) (by omega)).2.2.1)) ?_
                  refine a_icmp_le (tgt := 199) C dX10_fault_192 rfl (by unfold ii_B; omega) (by unfold ii_B; omega) (fun h192 => ?_) (fun h192 => ?_)
                  · skip
                    refine a_iconst C dX10_fault_199 ?_
                    refine a_top (w := ii_v (if (!decide ((S.getD k 0) % 2 = 0) && decide (v 4 ((S.getD k 0) / 2) < T.getD k 0 - pl_since v S T (S.getD k 0))) = true then 1 else 0)) (by first | exact bt_0 (by rw [decide_eq_true (p := (S.getD k 0) % 2 = 0) hpar]; rfl) | exact bt_1 (by rw [decide_eq_false (p := (S.getD k 0) % 2 = 0) hpar, decide_eq_true (p := v 4 ((S.getD k 0) / 2) < T.getD k 0 - pl_since v S T (S.getD k 0)) (by omega)]; rfl) | exact bt_0 (by rw [decide_eq_false (p := (S.getD k 0) % 2 = 0) hpar, decide_eq_false (p := v 4 ((S.getD k 0) / 2) < T.getD k 0 - pl_since v S T (S.getD k 0)) (by omega)]; rfl)) ?_
                    refine a_ior (b := (if (D || (!decide ((S.getD k 0) % 2 = 0) && decide (v 4 ((S.getD k 0) / 2) < T.getD k 0 - pl_since v S T (S.getD k 0)))) = true then 1 else 0)) C dX10_fault_200 (ii_or _ _) ?_
                    refine a_istore (L' := [(0, .ref (ad 40)), (1, ii_v ((b : Nat) : Int)), (2, ii_v (pl_len v (f 46 b) (f 47 b) S (f 44 b) (f 45 b))), (3, ii_v (ri + pl_mv v (S.getD k 0))), (4, ii_v (if (A || (decide (f 41 b < ri + pl_mv v (S.getD k 0)))) = true then 1 else 0)), (5, ii_v (if (B || (decide ((S.getD k 0) % 2 = 0) && decide (v 3 ((S.getD k 0) / 2) < T.getD k 0))) = true then 1 else 0)), (6, ii_v (if (D || (!decide ((S.getD k 0) % 2 = 0) && decide (v 4 ((S.getD k 0) / 2) < T.getD k 0 - pl_since v S T (S.getD k 0)))) = true then 1 else 0)), (7, ii_v ((k : Nat) : Int)), (8, ii_v ((((S.getD k 0) : Nat) : Int) / 2))]) C dX10_fault_201 (by decide) rfl ?_
                    refine a_iinc (L' := [(0, .ref (ad 40)), (1, ii_v ((b : Nat) : Int)), (2, ii_v (pl_len v (f 46 b) (f 47 b) S (f 44 b) (f 45 b))), (3, ii_v (ri + pl_mv v (S.getD k 0))), (4, ii_v (if (A || (decide (f 41 b < ri + pl_mv v (S.getD k 0)))) = true then 1 else 0)), (5, ii_v (if (B || (decide ((S.getD k 0) % 2 = 0) && decide (v 3 ((S.getD k 0) / 2) < T.getD k 0))) = true then 1 else 0)), (6, ii_v (if (D || (!decide ((S.getD k 0) % 2 = 0) && decide (v 4 ((S.getD k 0) / 2) < T.getD k 0 - pl_since v S T (S.getD k 0)))) = true then 1 else 0)), (7, ii_v (((k : Nat) : Int) + 1)), (8, ii_v ((((S.getD k 0) : Nat) : Int) / 2))]) C dX10_fault_203 rfl (by decide) rfl ?_
                    refine a_goto (tgt := 37) C dX10_fault_206 rfl ?_
                    refine a_pick [0, 1, 2, 3, 4, 5, 6, 7] (L2 := [(0, .ref (ad 40)), (1, ii_v ((b : Nat) : Int)), (2, ii_v (pl_len v (f 46 b) (f 47 b) S (f 44 b) (f 45 b))), (3, ii_v (ri + pl_mv v (S.getD k 0))), (4, ii_v (if (A || (decide (f 41 b < ri + pl_mv v (S.getD k 0)))) = true then 1 else 0)), (5, ii_v (if (B || (decide ((S.getD k 0) % 2 = 0) && decide (v 3 ((S.getD k 0) / 2) < T.getD k 0))) = true then 1 else 0)), (6, ii_v (if (D || (!decide ((S.getD k 0) % 2 = 0) && decide (v 4 ((S.getD k 0) / 2) < T.getD k 0 - pl_since v S T (S.getD k 0)))) = true then 1 else 0)), (7, ii_v (((k : Nat) : Int) + 1))]) rfl ?_
                    exact ih37 (k + 1) (ri + pl_mv v (S.getD k 0)) (A || (decide (f 41 b < ri + pl_mv v (S.getD k 0)))) (B || (decide ((S.getD k 0) % 2 = 0) && decide (v 3 ((S.getD k 0) / 2) < T.getD k 0))) (D || (!decide ((S.getD k 0) % 2 = 0) && decide (v 4 ((S.getD k 0) / 2) < T.getD k 0 - pl_since v S T (S.getD k 0)))) (by omega) (by omega) (by omega) (by rw [← hA, ls_drop (k := k) (by omega), pl_seat, Bool.or_assoc]) (by rw [← hBb, ls_drop (k := k) (by omega), lt_drop (k := k) (by omega), pl_late, Bool.or_assoc]) (by rw [← hDd, ls_drop (k := k) (by omega), lt_drop (k := k) (by omega), pl_long, Bool.or_assoc])
                  · skip
                    refine a_iconst C dX10_fault_195 ?_
                    refine a_goto (tgt := 200) C dX10_fault_196 rfl ?_
                    refine a_top (w := ii_v (if (!decide ((S.getD k 0) % 2 = 0) && decide (v 4 ((S.getD k 0) / 2) < T.getD k 0 - pl_since v S T (S.getD k 0))) = true then 1 else 0)) (by first | exact bt_0 (by rw [decide_eq_true (p := (S.getD k 0) % 2 = 0) hpar]; rfl) | exact bt_1 (by rw [decide_eq_false (p := (S.getD k 0) % 2 = 0) hpar, decide_eq_true (p := v 4 ((S.getD k 0) / 2) < T.getD k 0 - pl_since v S T (S.getD k 0)) (by omega)]; rfl) | exact bt_0 (by rw [decide_eq_false (p := (S.getD k 0) % 2 = 0) hpar, decide_eq_false (p := v 4 ((S.getD k 0) / 2) < T.getD k 0 - pl_since v S T (S.getD k 0)) (by omega)]; rfl)) ?_
                    refine a_ior (b := (if (D || (!decide ((S.getD k 0) % 2 = 0) && decide (v 4 ((S.getD k 0) / 2) < T.getD k 0 - pl_since v S T (S.getD k 0)))) = true then 1 else 0)) C dX10_fault_200 (ii_or _ _) ?_
                    refine a_istore (L' := [(0, .ref (ad 40)), (1, ii_v ((b : Nat) : Int)), (2, ii_v (pl_len v (f 46 b) (f 47 b) S (f 44 b) (f 45 b))), (3, ii_v (ri + pl_mv v (S.getD k 0))), (4, ii_v (if (A || (decide (f 41 b < ri + pl_mv v (S.getD k 0)))) = true then 1 else 0)), (5, ii_v (if (B || (decide ((S.getD k 0) % 2 = 0) && decide (v 3 ((S.getD k 0) / 2) < T.getD k 0))) = true then 1 else 0)), (6, ii_v (if (D || (!decide ((S.getD k 0) % 2 = 0) && decide (v 4 ((S.getD k 0) / 2) < T.getD k 0 - pl_since v S T (S.getD k 0)))) = true then 1 else 0)), (7, ii_v ((k : Nat) : Int)), (8, ii_v ((((S.getD k 0) : Nat) : Int) / 2))]) C dX10_fault_201 (by decide) rfl ?_
                    refine a_iinc (L' := [(0, .ref (ad 40)), (1, ii_v ((b : Nat) : Int)), (2, ii_v (pl_len v (f 46 b) (f 47 b) S (f 44 b) (f 45 b))), (3, ii_v (ri + pl_mv v (S.getD k 0))), (4, ii_v (if (A || (decide (f 41 b < ri + pl_mv v (S.getD k 0)))) = true then 1 else 0)), (5, ii_v (if (B || (decide ((S.getD k 0) % 2 = 0) && decide (v 3 ((S.getD k 0) / 2) < T.getD k 0))) = true then 1 else 0)), (6, ii_v (if (D || (!decide ((S.getD k 0) % 2 = 0) && decide (v 4 ((S.getD k 0) / 2) < T.getD k 0 - pl_since v S T (S.getD k 0)))) = true then 1 else 0)), (7, ii_v (((k : Nat) : Int) + 1)), (8, ii_v ((((S.getD k 0) : Nat) : Int) / 2))]) C dX10_fault_203 rfl (by decide) rfl ?_
                    refine a_goto (tgt := 37) C dX10_fault_206 rfl ?_
                    refine a_pick [0, 1, 2, 3, 4, 5, 6, 7] (L2 := [(0, .ref (ad 40)), (1, ii_v ((b : Nat) : Int)), (2, ii_v (pl_len v (f 46 b) (f 47 b) S (f 44 b) (f 45 b))), (3, ii_v (ri + pl_mv v (S.getD k 0))), (4, ii_v (if (A || (decide (f 41 b < ri + pl_mv v (S.getD k 0)))) = true then 1 else 0)), (5, ii_v (if (B || (decide ((S.getD k 0) % 2 = 0) && decide (v 3 ((S.getD k 0) / 2) < T.getD k 0))) = true then 1 else 0)), (6, ii_v (if (D || (!decide ((S.getD k 0) % 2 = 0) && decide (v 4 ((S.getD k 0) / 2) < T.getD k 0 - pl_since v S T (S.getD k 0)))) = true then 1 else 0)), (7, ii_v (((k : Nat) : Int) + 1))]) rfl ?_
                    exact ih37 (k + 1) (ri + pl_mv v (S.getD k 0)) (A || (decide (f 41 b < ri + pl_mv v (S.getD k 0)))) (B || (decide ((S.getD k 0) % 2 = 0) && decide (v 3 ((S.getD k 0) / 2) < T.getD k 0))) (D || (!decide ((S.getD k 0) % 2 = 0) && decide (v 4 ((S.getD k 0) / 2) < T.getD k 0 - pl_since v S T (S.getD k 0)))) (by omega) (by omega) (by omega) (by rw [← hA, ls_drop (k := k) (by omega), pl_seat, Bool.or_assoc]) (by rw [← hBb, ls_drop (k := k) (by omega), lt_drop (k := k) (by omega), pl_late, Bool.or_assoc]) (by rw [← hDd, ls_drop (k := k) (by omega), lt_drop (k := k) (by omega), pl_long, Bool.or_assoc])
              · skip
                exact absurd hpar h123
            · skip
              refine a_iconst C dX10_fault_103 ?_
              refine a_goto (tgt := 108) C dX10_fault_104 rfl ?_
              refine a_top (w := ii_v (if (decide (f 41 b < ri + pl_mv v (S.getD k 0))) = true then 1 else 0)) (by first | exact bt_1 (by first | exact decide_eq_true (by omega) | simp_all) | exact bt_0 (by first | exact decide_eq_false (by omega) | simp_all)) ?_
              refine a_ior (b := (if (A || (decide (f 41 b < ri + pl_mv v (S.getD k 0)))) = true then 1 else 0)) C dX10_fault_108 (ii_or _ _) ?_
              refine a_istore (L' := [(0, .ref (ad 40)), (1, ii_v ((b : Nat) : Int)), (2, ii_v (pl_len v (f 46 b) (f 47 b) S (f 44 b) (f 45 b))), (3, ii_v (ri + pl_mv v (S.getD k 0))), (4, ii_v (if (A || (decide (f 41 b < ri + pl_mv v (S.getD k 0)))) = true then 1 else 0)), (5, ii_v (if B = true then 1 else 0)), (6, ii_v (if D = true then 1 else 0)), (7, ii_v ((k : Nat) : Int)), (8, ii_v ((((S.getD k 0) : Nat) : Int) / 2))]) C dX10_fault_109 (by decide) rfl ?_
              refine a_iload C dX10_fault_111 rfl ?_
              refine a_aload_n C dX10_fault_113 rfl ?_
              refine a_get (ci := 11) (i := 35) (v := .ref (ad 75)) C iw_X10 rfl (by decide) rfl fl_X10_102 rfl rfl dX10_fault_114 ?_
              refine a_iload C dX10_fault_117 rfl ?_
              refine a_iald (o := 75) (N := 8) k C dX10_fault_119 rfl (by omega) (by omega) (by decide) ?_
              refine a_top (w := ii_v (g1 75 k)) rfl ?_
              refine a_top (w := ii_v ((S.getD k 0 : Nat) : Int)) (congrArg (fun q => ii_v q) ((congrFun (hfg1 75 (by decide)) _).trans (hj k (by omega)))) ?_
              refine a_callS (As := [ii_v (((S.getD k 0) : Nat) : Int)]) C (m_isDrop hl g1 w (S.getD k 0) (by omega)) co_X10_isDrop in_X10 ml_X10_135 sc_X10_isDrop ar_X10_isDrop ⟨by decide, by decide, by decide, by decide⟩ rfl (Nat.le_of_ble_eq_true rfl) dX10_fault_120 (a_dR ?_) a_nR
              rw [md_iff (P := (S.getD k 0) % 2 = 0)]
              refine a_bif_ne (tgt := 147) C dX10_fault_123 rfl (fun h123 => ?_) (fun h123 => ?_)
              · skip
                refine a_iconst C dX10_fault_147 ?_
                refine a_top (w := ii_v (if (decide ((S.getD k 0) % 2 = 0) && decide (v 3 ((S.getD k 0) / 2) < T.getD k 0)) = true then 1 else 0)) (by first | exact bt_1 (by rw [decide_eq_true (p := (S.getD k 0) % 2 = 0) hpar, decide_eq_true (p := v 3 ((S.getD k 0) / 2) < T.getD k 0) (by omega)]; rfl) | exact bt_0 (by rw [decide_eq_true (p := (S.getD k 0) % 2 = 0) hpar, decide_eq_false (p := v 3 ((S.getD k 0) / 2) < T.getD k 0) (by omega)]; rfl) | exact bt_0 (by rw [decide_eq_false (p := (S.getD k 0) % 2 = 0) hpar]; rfl)) ?_
                refine a_ior (b := (if (B || (decide ((S.getD k 0) % 2 = 0) && decide (v 3 ((S.getD k 0) / 2) < T.getD k 0))) = true then 1 else 0)) C dX10_fault_148 (ii_or _ _) ?_
                refine a_istore (L' := [(0, .ref (ad 40)), (1, ii_v ((b : Nat) : Int)), (2, ii_v (pl_len v (f 46 b) (f 47 b) S (f 44 b) (f 45 b))), (3, ii_v (ri + pl_mv v (S.getD k 0))), (4, ii_v (if (A || (decide (f 41 b < ri + pl_mv v (S.getD k 0)))) = true then 1 else 0)), (5, ii_v (if (B || (decide ((S.getD k 0) % 2 = 0) && decide (v 3 ((S.getD k 0) / 2) < T.getD k 0))) = true then 1 else 0)), (6, ii_v (if D = true then 1 else 0)), (7, ii_v ((k : Nat) : Int)), (8, ii_v ((((S.getD k 0) : Nat) : Int) / 2))]) C dX10_fault_149 (by decide) rfl ?_
                refine a_iload C dX10_fault_151 rfl ?_
                refine a_aload_n C dX10_fault_153 rfl ?_
                refine a_get (ci := 11) (i := 35) (v := .ref (ad 75)) C iw_X10 rfl (by decide) rfl fl_X10_102 rfl rfl dX10_fault_154 ?_
                refine a_iload C dX10_fault_157 rfl ?_
                refine a_iald (o := 75) (N := 8) k C dX10_fault_159 rfl (by omega) (by omega) (by decide) ?_
                refine a_top (w := ii_v (g1 75 k)) rfl ?_
                refine a_top (w := ii_v ((S.getD k 0 : Nat) : Int)) (congrArg (fun q => ii_v q) ((congrFun (hfg1 75 (by decide)) _).trans (hj k (by omega)))) ?_
                refine a_callS (As := [ii_v (((S.getD k 0) : Nat) : Int)]) C (m_isDrop hl g1 w (S.getD k 0) (by omega)) co_X10_isDrop in_X10 ml_X10_135 sc_X10_isDrop ar_X10_isDrop ⟨by decide, by decide, by decide, by decide⟩ rfl (Nat.le_of_ble_eq_true rfl) dX10_fault_160 (a_dR ?_) a_nR
                rw [md_iff (P := (S.getD k 0) % 2 = 0)]
                refine a_bif_eq (tgt := 199) C dX10_fault_163 rfl (fun h163 => ?_) (fun h163 => ?_)
                · skip
                  exact absurd hpar h163
                · skip
                  refine a_aload_n C dX10_fault_166 rfl ?_
                  refine a_get (ci := 11) (i := 36) (v := .ref (ad 76)) C iw_X10 rfl (by decide) rfl fl_X10_105 rfl rfl dX10_fault_167 ?_
                  refine a_iload C dX10_fault_170 rfl ?_
                  refine a_iald (o := 76) (N := 8) k C dX10_fault_172 rfl (by omega) (by omega) (by decide) ?_
                  refine a_top (w := ii_v (g1 76 k)) rfl ?_
                  refine a_top (w := ii_v (T.getD k 0)) (congrArg (fun q => ii_v q) (hTg1 k (by omega))) ?_
                  refine a_aload_n C dX10_fault_173 rfl ?_
                  refine a_aload_n C dX10_fault_174 rfl ?_
                  refine a_get (ci := 11) (i := 35) (v := .ref (ad 75)) C iw_X10 rfl (by decide) rfl fl_X10_102 rfl rfl dX10_fault_175 ?_
                  refine a_iload C dX10_fault_178 rfl ?_
                  refine a_iald (o := 75) (N := 8) k C dX10_fault_180 rfl (by omega) (by omega) (by decide) ?_
                  refine a_top (w := ii_v (g1 75 k)) rfl ?_
                  refine a_top (w := ii_v ((S.getD k 0 : Nat) : Int)) (congrArg (fun q => ii_v q) ((congrFun (hfg1 75 (by decide)) _).trans (hj k (by omega)))) ?_
                  refine a_callV (o := 40) (As := [ii_v (((S.getD k 0) : Nat) : Int)]) C (m_pickupOf hl g1 w hvp (tr_same hS (hfg1 40 (by decide)) (hfg1 75 (by decide))) hq T hTg1 (S.getD k 0) (by omega) hpar) co_X10_pickupOf in_X10 ml_X10_166 im_X10_pickupOf se_X10_pickupOf rfl rfl ar_X10_pickupOf ⟨by decide, by decide, by decide, by decide⟩ rfl (Nat.le_of_ble_eq_true rfl) dX10_fault_181 (a_dR ?_) a_nR
                  have hsb : 0 ≤ pl_since v S T (S.getD k 0) ∧ pl_since v S T (S.getD k 0) ≤ 200000 := ls_sinceM hTb hv (by omega)
                  refine a_isub C dX10_fault_184 ?_
                  refine a_aload_n C dX10_fault_185 rfl ?_
                  refine a_get (ci := 11) (i := 19) (v := .ref (ad 59)) C iw_X10 rfl (by decide) rfl fl_X10_64 rfl rfl dX10_fault_186 ?_
                  refine a_iload C dX10_fault_189 rfl ?_
                  refine a_iald (o := 59) (N := 31) ((S.getD k 0) / 2) C dX10_fault_191 rfl (by omega) (by omega) (by decide) ?_
                  refine a_top (w := ii_v (g1 59 ((S.getD k 0) / 2))) rfl ?_
                  refine a_top (w := ii_v (v 4 ((S.getD k 0) / 2))) (congrArg (fun q => ii_v q) ((congrFun (hfg1 59 (by decide)) _).trans (hv.2 ((S.getD k 0) / 2) (by omega)).2.2.1)) ?_
                  refine a_icmp_le (tgt := 199) C dX10_fault_192 rfl (by unfold ii_B; omega) (by unfold ii_B; omega) (fun h192 => ?_) (fun h192 => ?_)
                  · skip
                    refine a_iconst C dX10_fault_199 ?_
                    refine a_top (w := ii_v (if (!decide ((S.getD k 0) % 2 = 0) && decide (v 4 ((S.getD k 0) / 2) < T.getD k 0 - pl_since v S T (S.getD k 0))) = true then 1 else 0)) (by first | exact bt_0 (by rw [decide_eq_true (p := (S.getD k 0) % 2 = 0) hpar]; rfl) | exact bt_1 (by rw [decide_eq_false (p := (S.getD k 0) % 2 = 0) hpar, decide_eq_true (p := v 4 ((S.getD k 0) / 2) < T.getD k 0 - pl_since v S T (S.getD k 0)) (by omega)]; rfl) | exact bt_0 (by rw [decide_eq_false (p := (S.getD k 0) % 2 = 0) hpar, decide_eq_false (p := v 4 ((S.getD k 0) / 2) < T.getD k 0 - pl_since v S T (S.getD k 0)) (by omega)]; rfl)) ?_
                    refine a_ior (b := (if (D || (!decide ((S.getD k 0) % 2 = 0) && decide (v 4 ((S.getD k 0) / 2) < T.getD k 0 - pl_since v S T (S.getD k 0)))) = true then 1 else 0)) C dX10_fault_200 (ii_or _ _) ?_
                    refine a_istore (L' := [(0, .ref (ad 40)), (1, ii_v ((b : Nat) : Int)), (2, ii_v (pl_len v (f 46 b) (f 47 b) S (f 44 b) (f 45 b))), (3, ii_v (ri + pl_mv v (S.getD k 0))), (4, ii_v (if (A || (decide (f 41 b < ri + pl_mv v (S.getD k 0)))) = true then 1 else 0)), (5, ii_v (if (B || (decide ((S.getD k 0) % 2 = 0) && decide (v 3 ((S.getD k 0) / 2) < T.getD k 0))) = true then 1 else 0)), (6, ii_v (if (D || (!decide ((S.getD k 0) % 2 = 0) && decide (v 4 ((S.getD k 0) / 2) < T.getD k 0 - pl_since v S T (S.getD k 0)))) = true then 1 else 0)), (7, ii_v ((k : Nat) : Int)), (8, ii_v ((((S.getD k 0) : Nat) : Int) / 2))]) C dX10_fault_201 (by decide) rfl ?_
                    refine a_iinc (L' := [(0, .ref (ad 40)), (1, ii_v ((b : Nat) : Int)), (2, ii_v (pl_len v (f 46 b) (f 47 b) S (f 44 b) (f 45 b))), (3, ii_v (ri + pl_mv v (S.getD k 0))), (4, ii_v (if (A || (decide (f 41 b < ri + pl_mv v (S.getD k 0)))) = true then 1 else 0)), (5, ii_v (if (B || (decide ((S.getD k 0) % 2 = 0) && decide (v 3 ((S.getD k 0) / 2) < T.getD k 0))) = true then 1 else 0)), (6, ii_v (if (D || (!decide ((S.getD k 0) % 2 = 0) && decide (v 4 ((S.getD k 0) / 2) < T.getD k 0 - pl_since v S T (S.getD k 0)))) = true then 1 else 0)), (7, ii_v (((k : Nat) : Int) + 1)), (8, ii_v ((((S.getD k 0) : Nat) : Int) / 2))]) C dX10_fault_203 rfl (by decide) rfl ?_
                    refine a_goto (tgt := 37) C dX10_fault_206 rfl ?_
                    refine a_pick [0, 1, 2, 3, 4, 5, 6, 7] (L2 := [(0, .ref (ad 40)), (1, ii_v ((b : Nat) : Int)), (2, ii_v (pl_len v (f 46 b) (f 47 b) S (f 44 b) (f 45 b))), (3, ii_v (ri + pl_mv v (S.getD k 0))), (4, ii_v (if (A || (decide (f 41 b < ri + pl_mv v (S.getD k 0)))) = true then 1 else 0)), (5, ii_v (if (B || (decide ((S.getD k 0) % 2 = 0) && decide (v 3 ((S.getD k 0) / 2) < T.getD k 0))) = true then 1 else 0)), (6, ii_v (if (D || (!decide ((S.getD k 0) % 2 = 0) && decide (v 4 ((S.getD k 0) / 2) < T.getD k 0 - pl_since v S T (S.getD k 0)))) = true then 1 else 0)), (7, ii_v (((k : Nat) : Int) + 1))]) rfl ?_
                    exact ih37 (k + 1) (ri + pl_mv v (S.getD k 0)) (A || (decide (f 41 b < ri + pl_mv v (S.getD k 0)))) (B || (decide ((S.getD k 0) % 2 = 0) && decide (v 3 ((S.getD k 0) / 2) < T.getD k 0))) (D || (!decide ((S.getD k 0) % 2 = 0) && decide (v 4 ((S.getD k 0) / 2) < T.getD k 0 - pl_since v S T (S.getD k 0)))) (by omega) (by omega) (by omega) (by rw [← hA, ls_drop (k := k) (by omega), pl_seat, Bool.or_assoc]) (by rw [← hBb, ls_drop (k := k) (by omega), lt_drop (k := k) (by omega), pl_late, Bool.or_assoc]) (by rw [← hDd, ls_drop (k := k) (by omega), lt_drop (k := k) (by omega), pl_long, Bool.or_assoc])
                  · skip
                    refine a_iconst C dX10_fault_195 ?_
                    refine a_goto (tgt := 200) C dX10_fault_196 rfl ?_
                    refine a_top (w := ii_v (if (!decide ((S.getD k 0) % 2 = 0) && decide (v 4 ((S.getD k 0) / 2) < T.getD k 0 - pl_since v S T (S.getD k 0))) = true then 1 else 0)) (by first | exact bt_0 (by rw [decide_eq_true (p := (S.getD k 0) % 2 = 0) hpar]; rfl) | exact bt_1 (by rw [decide_eq_false (p := (S.getD k 0) % 2 = 0) hpar, decide_eq_true (p := v 4 ((S.getD k 0) / 2) < T.getD k 0 - pl_since v S T (S.getD k 0)) (by omega)]; rfl) | exact bt_0 (by rw [decide_eq_false (p := (S.getD k 0) % 2 = 0) hpar, decide_eq_false (p := v 4 ((S.getD k 0) / 2) < T.getD k 0 - pl_since v S T (S.getD k 0)) (by omega)]; rfl)) ?_
                    refine a_ior (b := (if (D || (!decide ((S.getD k 0) % 2 = 0) && decide (v 4 ((S.getD k 0) / 2) < T.getD k 0 - pl_since v S T (S.getD k 0)))) = true then 1 else 0)) C dX10_fault_200 (ii_or _ _) ?_
                    refine a_istore (L' := [(0, .ref (ad 40)), (1, ii_v ((b : Nat) : Int)), (2, ii_v (pl_len v (f 46 b) (f 47 b) S (f 44 b) (f 45 b))), (3, ii_v (ri + pl_mv v (S.getD k 0))), (4, ii_v (if (A || (decide (f 41 b < ri + pl_mv v (S.getD k 0)))) = true then 1 else 0)), (5, ii_v (if (B || (decide ((S.getD k 0) % 2 = 0) && decide (v 3 ((S.getD k 0) / 2) < T.getD k 0))) = true then 1 else 0)), (6, ii_v (if (D || (!decide ((S.getD k 0) % 2 = 0) && decide (v 4 ((S.getD k 0) / 2) < T.getD k 0 - pl_since v S T (S.getD k 0)))) = true then 1 else 0)), (7, ii_v ((k : Nat) : Int)), (8, ii_v ((((S.getD k 0) : Nat) : Int) / 2))]) C dX10_fault_201 (by decide) rfl ?_
                    refine a_iinc (L' := [(0, .ref (ad 40)), (1, ii_v ((b : Nat) : Int)), (2, ii_v (pl_len v (f 46 b) (f 47 b) S (f 44 b) (f 45 b))), (3, ii_v (ri + pl_mv v (S.getD k 0))), (4, ii_v (if (A || (decide (f 41 b < ri + pl_mv v (S.getD k 0)))) = true then 1 else 0)), (5, ii_v (if (B || (decide ((S.getD k 0) % 2 = 0) && decide (v 3 ((S.getD k 0) / 2) < T.getD k 0))) = true then 1 else 0)), (6, ii_v (if (D || (!decide ((S.getD k 0) % 2 = 0) && decide (v 4 ((S.getD k 0) / 2) < T.getD k 0 - pl_since v S T (S.getD k 0)))) = true then 1 else 0)), (7, ii_v (((k : Nat) : Int) + 1)), (8, ii_v ((((S.getD k 0) : Nat) : Int) / 2))]) C dX10_fault_203 rfl (by decide) rfl ?_
                    refine a_goto (tgt := 37) C dX10_fault_206 rfl ?_
                    refine a_pick [0, 1, 2, 3, 4, 5, 6, 7] (L2 := [(0, .ref (ad 40)), (1, ii_v ((b : Nat) : Int)), (2, ii_v (pl_len v (f 46 b) (f 47 b) S (f 44 b) (f 45 b))), (3, ii_v (ri + pl_mv v (S.getD k 0))), (4, ii_v (if (A || (decide (f 41 b < ri + pl_mv v (S.getD k 0)))) = true then 1 else 0)), (5, ii_v (if (B || (decide ((S.getD k 0) % 2 = 0) && decide (v 3 ((S.getD k 0) / 2) < T.getD k 0))) = true then 1 else 0)), (6, ii_v (if (D || (!decide ((S.getD k 0) % 2 = 0) && decide (v 4 ((S.getD k 0) / 2) < T.getD k 0 - pl_since v S T (S.getD k 0)))) = true then 1 else 0)), (7, ii_v (((k : Nat) : Int) + 1))]) rfl ?_
                    exact ih37 (k + 1) (ri + pl_mv v (S.getD k 0)) (A || (decide (f 41 b < ri + pl_mv v (S.getD k 0)))) (B || (decide ((S.getD k 0) % 2 = 0) && decide (v 3 ((S.getD k 0) / 2) < T.getD k 0))) (D || (!decide ((S.getD k 0) % 2 = 0) && decide (v 4 ((S.getD k 0) / 2) < T.getD k 0 - pl_since v S T (S.getD k 0)))) (by omega) (by omega) (by omega) (by rw [← hA, ls_drop (k := k) (by omega), pl_seat, Bool.or_assoc]) (by rw [← hBb, ls_drop (k := k) (by omega), lt_drop (k := k) (by omega), pl_late, Bool.or_assoc]) (by rw [← hDd, ls_drop (k := k) (by omega), lt_drop (k := k) (by omega), pl_long, Bool.or_assoc])
              · skip
                exact absurd hpar h123
    exact loop37 (_ + 1) 0 (ab_n f b n) (decide (6 < S.length)) false false (Nat.lt_succ_self _) (Nat.zero_le _) (by omega) rfl rfl rfl
