/-! The model: the best order. -/
set_option maxRecDepth 20000 in
set_option maxHeartbeats 2000000 in
theorem m_findsBest {l : Launch} {E : ab_E} {base : Nat} (hl : l.stackTraces = false) {ad : Nat → Nat} (f : Nat → Nat → Int) (w : Nat × Nat × Int64 × UInt64) (b : Nat) (hb : b < 4) {v : Nat → Nat → Int} (hv : pj_C f v) (hB : pk_B f b) (hnow : 0 ≤ f 40 32 ∧ f 40 32 ≤ 100000) (n : Nat) (hn : f 40 30 = (n : Int)) (hn30 : n ≤ 30) (hrid : ∀ r, r < n → (0 ≤ f 57 r ∧ f 57 r ≤ 6) ∧ st_ok (f 63 r) ∧ -1 ≤ f 60 r ∧ f 60 r ≤ 10) {S : List Nat} (hS : mt_I f b S) (hS6 : S.length ≤ 6)  : ab_M l E base yX10_findsBest cX10_findsBest 2 none 14 0 0 [.ref (ad 40), ii_v ((b : Nat) : Int)] ab_x4 ad (f, w) (ab_F ad w (fun ov g => ov = none ∧ bs_I g S.length (om_f v (mB f n b) (f 40 32) S n S.length [] (-1, [])) ∧ (∀ o2, o2 ≠ 40 → (o2 < 75 ∨ 76 < o2) → (o2 < 83 ∨ 84 < o2) → g o2 = f o2) ∧ (∀ i, i ≠ 37 → i ≠ 45 → i ≠ 46 → g 40 i = f 40 i) ∧ g 40 46 = (S.length : Int))) := by
  obtain ⟨Post, hPost⟩ : ∃ P : ab_P, P = (ab_F ad w (fun ov g => ov = none ∧ bs_I g S.length (om_f v (mB f n b) (f 40 32) S n S.length [] (-1, [])) ∧ (∀ o2, o2 ≠ 40 → (o2 < 75 ∨ 76 < o2) → (o2 < 83 ∨ 84 < o2) → g o2 = f o2) ∧ (∀ i, i ≠ 37 → i ≠ 45 → i ≠ 46 → g 40 i = f 40 i) ∧ g 40 46 = (S.length : Int))) := ⟨_, rfl⟩
  rw [← hPost]
  refine ab_of RX10 [(0, .ref (ad 40)), (1, ii_v ((b : Nat) : Int))] hl (by decide) rfl (Nat.le_of_ble_eq_true rfl) rfl ?_
  intro p e s m args below meth c C T0 hnm
  obtain ⟨hc, h8, hj, hb64⟩ := id hS
  refine a_aload_n C dX10_findsBest_0 rfl ?_
  refine a_aload_n C dX10_findsBest_1 rfl ?_
  refine a_get (ci := 11) (i := 11) (v := .ref (ad 51)) C iw_X10 rfl (by decide) rfl fl_X10_40 rfl rfl dX10_findsBest_2 ?_
  refine a_iload_n C dX10_findsBest_5 rfl ?_
  refine a_iald (o := 51) (N := 4) b C dX10_findsBest_6 rfl (by omega) (by omega) (by decide) ?_
  refine a_top (w := ii_v (f 51 b)) rfl ?_
  refine a_top (w := ii_v ((S.length : Nat) : Int)) (congrArg (fun q => ii_v q) hc) ?_
  refine a_put (ci := 11) (i := 46) C iw_X10 rfl (by decide) rfl tyX10 tyX10_ok nmX10 rfl rfl fl_X10_241 rfl rfl rfl rfl dX10_findsBest_7 ?_
  obtain ⟨g1, eg1⟩ : ∃ F : Nat → Nat → Int, F = ii_up f 40 46 ((S.length : Nat) : Int) := ⟨_, rfl⟩
  rw [← eg1]
  refine a_aload_n C dX10_findsBest_10 rfl ?_
  refine a_iconst C dX10_findsBest_11 ?_
  refine a_put (ci := 11) (i := 45) C iw_X10 rfl (by decide) rfl tyX10 tyX10_ok nmX10 rfl rfl fl_X10_244 rfl rfl rfl rfl dX10_findsBest_12 ?_
  obtain ⟨g2, eg2⟩ : ∃ F : Nat → Nat → Int, F = ii_up g1 40 45 (-1) := ⟨_, rfl⟩
  rw [← eg2]
  refine a_aload_n C dX10_findsBest_15 rfl ?_
  refine a_iload_n C dX10_findsBest_16 rfl ?_
  refine a_iconst C dX10_findsBest_17 ?_
  have hr2 : ∀ o, o ≠ 40 → g2 o = f o := fun o h => by rw [eg2, ii_up_row _ _ h, eg1]; exact ii_up_row _ _ h
  have h30 : g2 40 30 = f 40 30 := by rw [eg2, ii_up_k _ _ (by decide), eg1, ii_up_k _ _ (by decide)]
  have h32 : g2 40 32 = f 40 32 := by rw [eg2, ii_up_k _ _ (by decide), eg1, ii_up_k _ _ (by decide)]
  have hom2 : g2 40 46 = (S.length : Int) := by rw [eg2, ii_up_k _ _ (by decide), eg1, ii_up_s]
  have hv2 : pj_C g2 v := pj_same hv (fun o2 h => hr2 o2 (by omega))
  have hB2x : pk_B g2 b := by unfold pk_B; rw [hr2 41 (by decide), hr2 43 (by decide), hr2 44 (by decide), hr2 45 (by decide), hr2 46 (by decide), hr2 47 (by decide)]; exact hB
  have hrid2 : ∀ r, r < n → (0 ≤ g2 57 r ∧ g2 57 r ≤ 6) ∧ st_ok (g2 63 r) ∧ -1 ≤ g2 60 r ∧ g2 60 r ≤ 10 := fun r hr => by rw [hr2 57 (by decide), hr2 63 (by decide), hr2 60 (by decide)]; exact hrid r hr
  have hmt2 : mt_I g2 b S := mt_same hS (hr2 51 (by decide)) (hr2 52 (by decide))
  have hbs2 : bs_I g2 S.length (-1, []) := ⟨by rw [eg2, ii_up_s], by decide, fun h => absurd (show (0 : Int) ≤ -1 from h) (by decide)⟩
  have hmB2 : mB g2 n b = mB f n b := mB_same (hr2 41 (by decide)) (hr2 43 (by decide)) (hr2 44 (by decide)) (hr2 45 (by decide)) (hr2 46 (by decide)) (hr2 47 (by decide)) (ab_same (hr2 57 (by decide)) (hr2 63 (by decide)) (hr2 60 (by decide)) b n)
  by_cases hsp18_0 : S.length = 0
  · skip
    have hr2 : ∀ o, o ≠ 40 → g2 o = f o := fun o h => by rw [eg2, ii_up_row _ _ h, eg1]; exact ii_up_row _ _ h
    have h30 : g2 40 30 = f 40 30 := by rw [eg2, ii_up_k _ _ (by decide), eg1, ii_up_k _ _ (by decide)]
    have h32 : g2 40 32 = f 40 32 := by rw [eg2, ii_up_k _ _ (by decide), eg1, ii_up_k _ _ (by decide)]
    have hom2 : g2 40 46 = (S.length : Int) := by rw [eg2, ii_up_k _ _ (by decide), eg1, ii_up_s]
    have hv2 : pj_C g2 v := pj_same hv (fun o2 h => hr2 o2 (by omega))
    have hB2x : pk_B g2 b := by unfold pk_B; rw [hr2 41 (by decide), hr2 43 (by decide), hr2 44 (by decide), hr2 45 (by decide), hr2 46 (by decide), hr2 47 (by decide)]; exact hB
    have hrid2 : ∀ r, r < n → (0 ≤ g2 57 r ∧ g2 57 r ≤ 6) ∧ st_ok (g2 63 r) ∧ -1 ≤ g2 60 r ∧ g2 60 r ≤ 10 := fun r hr => by rw [hr2 57 (by decide), hr2 63 (by decide), hr2 60 (by decide)]; exact hrid r hr
    have hmt2 : mt_I g2 b S := mt_same hS (hr2 51 (by decide)) (hr2 52 (by decide))
    have hbs2 : bs_I g2 S.length (-1, []) := ⟨by rw [eg2, ii_up_s], by decide, fun h => absurd (show (0 : Int) ≤ -1 from h) (by decide)⟩
    have hmB2 : mB g2 n b = mB f n b := mB_same (hr2 41 (by decide)) (hr2 43 (by decide)) (hr2 44 (by decide)) (hr2 45 (by decide)) (hr2 46 (by decide)) (hr2 47 (by decide)) (ab_same (hr2 57 (by decide)) (hr2 63 (by decide)) (hr2 60 (by decide)) b n)
    refine a_callV (o := 40) (As := [ii_v ((b : Nat) : Int), ii_v 0]) C (m_orders0 hl g2 w b hb hv2 hB2x (by rw [h32]; exact hnow) n (by rw [h30]; exact hn) hn30 hrid2 hmt2 hS6 hom2 (Pf := []) (fun j h => absurd h (Nat.not_lt_zero j)) (Nat.zero_le _) (fun j h => absurd h (Nat.not_lt_zero j)) (fun j h => absurd h (Nat.not_lt_zero j)) (by show 0 + 0 = S.length; omega) (-1, []) hbs2) co_X10_orders in_X10 ml_X10_253 im_X10_orders se_X10_orders rfl rfl ar_X10_orders ⟨by decide, by decide, by decide, by decide⟩ rfl (Nat.le_of_ble_eq_true rfl) dX10_findsBest_18 (a_dF ?_) a_nF
    intro vg3 g3 hvg3
    obtain ⟨rfl, hsg3, -, hfg3, h4g3⟩ := hvg3
    rw [hmB2, h32] at hsg3
    refine a_vret C ?_ (by decide) (by decide) dX10_findsBest_21
    rw [hPost]
    refine ab_F_of ⟨rfl, ?_, fun o2 h1 h2 h3 => (hfg3 o2 h1 h2 h3).trans (hr2 o2 h1), fun i h1 h2 h3 => (h4g3 i h1 h2).trans (by rw [eg2, ii_up_k _ _ h2, eg1, ii_up_k _ _ h3]), (h4g3 46 (by decide) (by decide)).trans hom2⟩
    rw [show S.length = 0 by omega]
    rw [show S.length = 0 by omega] at hsg3
    exact hsg3
  · skip
    by_cases hsp18_1 : S.length = 1
    · skip
      have hr2 : ∀ o, o ≠ 40 → g2 o = f o := fun o h => by rw [eg2, ii_up_row _ _ h, eg1]; exact ii_up_row _ _ h
      have h30 : g2 40 30 = f 40 30 := by rw [eg2, ii_up_k _ _ (by decide), eg1, ii_up_k _ _ (by decide)]
      have h32 : g2 40 32 = f 40 32 := by rw [eg2, ii_up_k _ _ (by decide), eg1, ii_up_k _ _ (by decide)]
      have hom2 : g2 40 46 = (S.length : Int) := by rw [eg2, ii_up_k _ _ (by decide), eg1, ii_up_s]
      have hv2 : pj_C g2 v := pj_same hv (fun o2 h => hr2 o2 (by omega))
      have hB2x : pk_B g2 b := by unfold pk_B; rw [hr2 41 (by decide), hr2 43 (by decide), hr2 44 (by decide), hr2 45 (by decide), hr2 46 (by decide), hr2 47 (by decide)]; exact hB
      have hrid2 : ∀ r, r < n → (0 ≤ g2 57 r ∧ g2 57 r ≤ 6) ∧ st_ok (g2 63 r) ∧ -1 ≤ g2 60 r ∧ g2 60 r ≤ 10 := fun r hr => by rw [hr2 57 (by decide), hr2 63 (by decide), hr2 60 (by decide)]; exact hrid r hr
      have hmt2 : mt_I g2 b S := mt_same hS (hr2 51 (by decide)) (hr2 52 (by decide))
      have hbs2 : bs_I g2 S.length (-1, []) := ⟨by rw [eg2, ii_up_s], by decide, fun h => absurd (show (0 : Int) ≤ -1 from h) (by decide)⟩
      have hmB2 : mB g2 n b = mB f n b := mB_same (hr2 41 (by decide)) (hr2 43 (by decide)) (hr2 44 (by decide)) (hr2 45 (by decide)) (hr2 46 (by decide)) (hr2 47 (by decide)) (ab_same (hr2 57 (by decide)) (hr2 63 (by decide)) (hr2 60 (by decide)) b n)
      refine a_callV (o := 40) (As := [ii_v ((b : Nat) : Int), ii_v 0]) C (m_orders1 hl g2 w b hb hv2 hB2x (by rw [h32]; exact hnow) n (by rw [h30]; exact hn) hn30 hrid2 hmt2 hS6 hom2 (Pf := []) (fun j h => absurd h (Nat.not_lt_zero j)) (Nat.zero_le _) (fun j h => absurd h (Nat.not_lt_zero j)) (fun j h => absurd h (Nat.not_lt_zero j)) (by show 0 + 1 = S.length; omega) (-1, []) hbs2) co_X10_orders in_X10 ml_X10_253 im_X10_orders se_X10_orders rfl rfl ar_X10_orders ⟨by decide, by decide, by decide, by decide⟩ rfl (Nat.le_of_ble_eq_true rfl) dX10_findsBest_18 (a_dF ?_) a_nF
      intro vg4 g4 hvg4
      obtain ⟨rfl, hsg4, -, hfg4, h4g4⟩ := hvg4
      rw [hmB2, h32] at hsg4
      refine a_vret C ?_ (by decide) (by decide) dX10_findsBest_21
      rw [hPost]
      refine ab_F_of ⟨rfl, ?_, fun o2 h1 h2 h3 => (hfg4 o2 h1 h2 h3).trans (hr2 o2 h1), fun i h1 h2 h3 => (h4g4 i h1 h2).trans (by rw [eg2, ii_up_k _ _ h2, eg1, ii_up_k _ _ h3]), (h4g4 46 (by decide) (by decide)).trans hom2⟩
      rw [show S.length = 1 by omega]
      rw [show S.length = 1 by omega] at hsg4
      exact hsg4
    · skip
      by_cases hsp18_2 : S.length = 2
      · skip
        have hr2 : ∀ o, o ≠ 40 → g2 o = f o := fun o h => by rw [eg2, ii_up_row _ _ h, eg1]; exact ii_up_row _ _ h
        have h30 : g2 40 30 = f 40 30 := by rw [eg2, ii_up_k _ _ (by decide), eg1, ii_up_k _ _ (by decide)]
        have h32 : g2 40 32 = f 40 32 := by rw [eg2, ii_up_k _ _ (by decide), eg1, ii_up_k _ _ (by decide)]
        have hom2 : g2 40 46 = (S.length : Int) := by rw [eg2, ii_up_k _ _ (by decide), eg1, ii_up_s]
        have hv2 : pj_C g2 v := pj_same hv (fun o2 h => hr2 o2 (by omega))
        have hB2x : pk_B g2 b := by unfold pk_B; rw [hr2 41 (by decide), hr2 43 (by decide), hr2 44 (by decide), hr2 45 (by decide), hr2 46 (by decide), hr2 47 (by decide)]; exact hB
        have hrid2 : ∀ r, r < n → (0 ≤ g2 57 r ∧ g2 57 r ≤ 6) ∧ st_ok (g2 63 r) ∧ -1 ≤ g2 60 r ∧ g2 60 r ≤ 10 := fun r hr => by rw [hr2 57 (by decide), hr2 63 (by decide), hr2 60 (by decide)]; exact hrid r hr
        have hmt2 : mt_I g2 b S := mt_same hS (hr2 51 (by decide)) (hr2 52 (by decide))
        have hbs2 : bs_I g2 S.length (-1, []) := ⟨by rw [eg2, ii_up_s], by decide, fun h => absurd (show (0 : Int) ≤ -1 from h) (by decide)⟩
        have hmB2 : mB g2 n b = mB f n b := mB_same (hr2 41 (by decide)) (hr2 43 (by decide)) (hr2 44 (by decide)) (hr2 45 (by decide)) (hr2 46 (by decide)) (hr2 47 (by decide)) (ab_same (hr2 57 (by decide)) (hr2 63 (by decide)) (hr2 60 (by decide)) b n)
        refine a_callV (o := 40) (As := [ii_v ((b : Nat) : Int), ii_v 0]) C (m_orders2 hl g2 w b hb hv2 hB2x (by rw [h32]; exact hnow) n (by rw [h30]; exact hn) hn30 hrid2 hmt2 hS6 hom2 (Pf := []) (fun j h => absurd h (Nat.not_lt_zero j)) (Nat.zero_le _) (fun j h => absurd h (Nat.not_lt_zero j)) (fun j h => absurd h (Nat.not_lt_zero j)) (by show 0 + 2 = S.length; omega) (-1, []) hbs2) co_X10_orders in_X10 ml_X10_253 im_X10_orders se_X10_orders rfl rfl ar_X10_orders ⟨by decide, by decide, by decide, by decide⟩ rfl (Nat.le_of_ble_eq_true rfl) dX10_findsBest_18 (a_dF ?_) a_nF
        intro vg5 g5 hvg5
        obtain ⟨rfl, hsg5, -, hfg5, h4g5⟩ := hvg5
        rw [hmB2, h32] at hsg5
        refine a_vret C ?_ (by decide) (by decide) dX10_findsBest_21
        rw [hPost]
        refine ab_F_of ⟨rfl, ?_, fun o2 h1 h2 h3 => (hfg5 o2 h1 h2 h3).trans (hr2 o2 h1), fun i h1 h2 h3 => (h4g5 i h1 h2).trans (by rw [eg2, ii_up_k _ _ h2, eg1, ii_up_k _ _ h3]), (h4g5 46 (by decide) (by decide)).trans hom2⟩
        rw [show S.length = 2 by omega]
        rw [show S.length = 2 by omega] at hsg5
        exact hsg5
      · skip
        by_cases hsp18_3 : S.length = 3
        · skip
          have hr2 : ∀ o, o ≠ 40 → g2 o = f o := fun o h => by rw [eg2, ii_up_row _ _ h, eg1]; exact ii_up_row _ _ h
          have h30 : g2 40 30 = f 40 30 := by rw [eg2, ii_up_k _ _ (by decide), eg1, ii_up_k _ _ (by decide)]
          have h32 : g2 40 32 = f 40 32 := by rw [eg2, ii_up_k _ _ (by decide), eg1, ii_up_k _ _ (by decide)]
          have hom2 : g2 40 46 = (S.length : Int) := by rw [eg2, ii_up_k _ _ (by decide), eg1, ii_up_s]
          have hv2 : pj_C g2 v := pj_same hv (fun o2 h => hr2 o2 (by omega))
          have hB2x : pk_B g2 b := by unfold pk_B; rw [hr2 41 (by decide), hr2 43 (by decide), hr2 44 (by decide), hr2 45 (by decide), hr2 46 (by decide), hr2 47 (by decide)]; exact hB
          have hrid2 : ∀ r, r < n → (0 ≤ g2 57 r ∧ g2 57 r ≤ 6) ∧ st_ok (g2 63 r) ∧ -1 ≤ g2 60 r ∧ g2 60 r ≤ 10 := fun r hr => by rw [hr2 57 (by decide), hr2 63 (by decide), hr2 60 (by decide)]; exact hrid r hr
          have hmt2 : mt_I g2 b S := mt_same hS (hr2 51 (by decide)) (hr2 52 (by decide))
          have hbs2 : bs_I g2 S.length (-1, []) := ⟨by rw [eg2, ii_up_s], by decide, fun h => absurd (show (0 : Int) ≤ -1 from h) (by decide)⟩
          have hmB2 : mB g2 n b = mB f n b := mB_same (hr2 41 (by decide)) (hr2 43 (by decide)) (hr2 44 (by decide)) (hr2 45 (by decide)) (hr2 46 (by decide)) (hr2 47 (by decide)) (ab_same (hr2 57 (by decide)) (hr2 63 (by decide)) (hr2 60 (by decide)) b n)
          refine a_callV (o := 40) (As := [ii_v ((b : Nat) : Int), ii_v 0]) C (m_orders3 hl g2 w b hb hv2 hB2x (by rw [h32]; exact hnow) n (by rw [h30]; exact hn) hn30 hrid2 hmt2 hS6 hom2 (Pf := []) (fun j h => absurd h (Nat.not_lt_zero j)) (Nat.zero_le _) (fun j h => absurd h (Nat.not_lt_zero j)) (fun j h => absurd h (Nat.not_lt_zero j)) (by show 0 + 3 = S.length; omega) (-1, []) hbs2) co_X10_orders in_X10 ml_X10_253 im_X10_orders se_X10_orders rfl rfl ar_X10_orders ⟨by decide, by decide, by decide, by decide⟩ rfl (Nat.le_of_ble_eq_true rfl) dX10_findsBest_18 (a_dF ?_) a_nF
          intro vg6 g6 hvg6
          obtain ⟨rfl, hsg6, -, hfg6, h4g6⟩ := hvg6
          rw [hmB2, h32] at hsg6
          refine a_vret C ?_ (by decide) (by decide) dX10_findsBest_21
          rw [hPost]
          refine ab_F_of ⟨rfl, ?_, fun o2 h1 h2 h3 => (hfg6 o2 h1 h2 h3).trans (hr2 o2 h1), fun i h1 h2 h3 => (h4g6 i h1 h2).trans (by rw [eg2, ii_up_k _ _ h2, eg1, ii_up_k _ _ h3]), (h4g6 46 (by decide) (by decide)).trans hom2⟩
          rw [show S.length = 3 by omega]
          rw [show S.length = 3 by omega] at hsg6
          exact hsg6
        · skip
          by_cases hsp18_4 : S.length = 4
          · skip
            have hr2 : ∀ o, o ≠ 40 → g2 o = f o := fun o h => by rw [eg2, ii_up_row _ _ h, eg1]; exact ii_up_row _ _ h
            have h30 : g2 40 30 = f 40 30 := by rw [eg2, ii_up_k _ _ (by decide), eg1, ii_up_k _ _ (by decide)]
            have h32 : g2 40 32 = f 40 32 := by rw [eg2, ii_up_k _ _ (by decide), eg1, ii_up_k _ _ (by decide)]
            have hom2 : g2 40 46 = (S.length : Int) := by rw [eg2, ii_up_k _ _ (by decide), eg1, ii_up_s]
            have hv2 : pj_C g2 v := pj_same hv (fun o2 h => hr2 o2 (by omega))
            have hB2x : pk_B g2 b := by unfold pk_B; rw [hr2 41 (by decide), hr2 43 (by decide), hr2 44 (by decide), hr2 45 (by decide), hr2 46 (by decide), hr2 47 (by decide)]; exact hB
            have hrid2 : ∀ r, r < n → (0 ≤ g2 57 r ∧ g2 57 r ≤ 6) ∧ st_ok (g2 63 r) ∧ -1 ≤ g2 60 r ∧ g2 60 r ≤ 10 := fun r hr => by rw [hr2 57 (by decide), hr2 63 (by decide), hr2 60 (by decide)]; exact hrid r hr
            have hmt2 : mt_I g2 b S := mt_same hS (hr2 51 (by decide)) (hr2 52 (by decide))
            have hbs2 : bs_I g2 S.length (-1, []) := ⟨by rw [eg2, ii_up_s], by decide, fun h => absurd (show (0 : Int) ≤ -1 from h) (by decide)⟩
            have hmB2 : mB g2 n b = mB f n b := mB_same (hr2 41 (by decide)) (hr2 43 (by decide)) (hr2 44 (by decide)) (hr2 45 (by decide)) (hr2 46 (by decide)) (hr2 47 (by decide)) (ab_same (hr2 57 (by decide)) (hr2 63 (by decide)) (hr2 60 (by decide)) b n)
            refine a_callV (o := 40) (As := [ii_v ((b : Nat) : Int), ii_v 0]) C (m_orders4 hl g2 w b hb hv2 hB2x (by rw [h32]; exact hnow) n (by rw [h30]; exact hn) hn30 hrid2 hmt2 hS6 hom2 (Pf := []) (fun j h => absurd h (Nat.not_lt_zero j)) (Nat.zero_le _) (fun j h => absurd h (Nat.not_lt_zero j)) (fun j h => absurd h (Nat.not_lt_zero j)) (by show 0 + 4 = S.length; omega) (-1, []) hbs2) co_X10_orders in_X10 ml_X10_253 im_X10_orders se_X10_orders rfl rfl ar_X10_orders ⟨by decide, by decide, by decide, by decide⟩ rfl (Nat.le_of_ble_eq_true rfl) dX10_findsBest_18 (a_dF ?_) a_nF
            intro vg7 g7 hvg7
            obtain ⟨rfl, hsg7, -, hfg7, h4g7⟩ := hvg7
            rw [hmB2, h32] at hsg7
            refine a_vret C ?_ (by decide) (by decide) dX10_findsBest_21
            rw [hPost]
            refine ab_F_of ⟨rfl, ?_, fun o2 h1 h2 h3 => (hfg7 o2 h1 h2 h3).trans (hr2 o2 h1), fun i h1 h2 h3 => (h4g7 i h1 h2).trans (by rw [eg2, ii_up_k _ _ h2, eg1, ii_up_k _ _ h3]), (h4g7 46 (by decide) (by decide)).trans hom2⟩
            rw [show S.length = 4 by omega]
            rw [show S.length = 4 by omega] at hsg7
            exact hsg7
          · skip
            by_cases hsp18_5 : S.length = 5
            · skip
              have hr2 : ∀ o, o ≠ 40 → g2 o = f o := fun o h => by rw [eg2, ii_up_row _ _ h, eg1]; exact ii_up_row _ _ h
              have h30 : g2 40 30 = f 40 30 := by rw [eg2, ii_up_k _ _ (by decide), eg1, ii_up_k _ _ (by decide)]
              have h32 : g2 40 32 = f 40 32 := by rw [eg2, ii_up_k _ _ (by decide), eg1, ii_up_k _ _ (by decide)]
              have hom2 : g2 40 46 = (S.length : Int) := by rw [eg2, ii_up_k _ _ (by decide), eg1, ii_up_s]
              have hv2 : pj_C g2 v := pj_same hv (fun o2 h => hr2 o2 (by omega))
              have hB2x : pk_B g2 b := by unfold pk_B; rw [hr2 41 (by decide), hr2 43 (by decide), hr2 44 (by decide), hr2 45 (by decide), hr2 46 (by decide), hr2 47 (by decide)]; exact hB
              have hrid2 : ∀ r, r < n → (0 ≤ g2 57 r ∧ g2 57 r ≤ 6) ∧ st_ok (g2 63 r) ∧ -1 ≤ g2 60 r ∧ g2 60 r ≤ 10 := fun r hr => by rw [hr2 57 (by decide), hr2 63 (by decide), hr2 60 (by decide)]; exact hrid r hr
              have hmt2 : mt_I g2 b S := mt_same hS (hr2 51 (by decide)) (hr2 52 (by decide))
              have hbs2 : bs_I g2 S.length (-1, []) := ⟨by rw [eg2, ii_up_s], by decide, fun h => absurd (show (0 : Int) ≤ -1 from h) (by decide)⟩
              have hmB2 : mB g2 n b = mB f n b := mB_same (hr2 41 (by decide)) (hr2 43 (by decide)) (hr2 44 (by decide)) (hr2 45 (by decide)) (hr2 46 (by decide)) (hr2 47 (by decide)) (ab_same (hr2 57 (by decide)) (hr2 63 (by decide)) (hr2 60 (by decide)) b n)
              refine a_callV (o := 40) (As := [ii_v ((b : Nat) : Int), ii_v 0]) C (m_orders5 hl g2 w b hb hv2 hB2x (by rw [h32]; exact hnow) n (by rw [h30]; exact hn) hn30 hrid2 hmt2 hS6 hom2 (Pf := []) (fun j h => absurd h (Nat.not_lt_zero j)) (Nat.zero_le _) (fun j h => absurd h (Nat.not_lt_zero j)) (fun j h => absurd h (Nat.not_lt_zero j)) (by show 0 + 5 = S.length; omega) (-1, []) hbs2) co_X10_orders in_X10 ml_X10_253 im_X10_orders se_X10_orders rfl rfl ar_X10_orders ⟨by decide, by decide, by decide, by decide⟩ rfl (Nat.le_of_ble_eq_true rfl) dX10_findsBest_18 (a_dF ?_) a_nF
              intro vg8 g8 hvg8
              obtain ⟨rfl, hsg8, -, hfg8, h4g8⟩ := hvg8
              rw [hmB2, h32] at hsg8
              refine a_vret C ?_ (by decide) (by decide) dX10_findsBest_21
              rw [hPost]
              refine ab_F_of ⟨rfl, ?_, fun o2 h1 h2 h3 => (hfg8 o2 h1 h2 h3).trans (hr2 o2 h1), fun i h1 h2 h3 => (h4g8 i h1 h2).trans (by rw [eg2, ii_up_k _ _ h2, eg1, ii_up_k _ _ h3]), (h4g8 46 (by decide) (by decide)).trans hom2⟩
              rw [show S.length = 5 by omega]
              rw [show S.length = 5 by omega] at hsg8
              exact hsg8
            · skip
              by_cases hsp18_6 : S.length = 6
              · skip
                have hr2 : ∀ o, o ≠ 40 → g2 o = f o := fun o h => by rw [eg2, ii_up_row _ _ h, eg1]; exact ii_up_row _ _ h
                have h30 : g2 40 30 = f 40 30 := by rw [eg2, ii_up_k _ _ (by decide), eg1, ii_up_k _ _ (by decide)]
                have h32 : g2 40 32 = f 40 32 := by rw [eg2, ii_up_k _ _ (by decide), eg1, ii_up_k _ _ (by decide)]
                have hom2 : g2 40 46 = (S.length : Int) := by rw [eg2, ii_up_k _ _ (by decide), eg1, ii_up_s]
                have hv2 : pj_C g2 v := pj_same hv (fun o2 h => hr2 o2 (by omega))
                have hB2x : pk_B g2 b := by unfold pk_B; rw [hr2 41 (by decide), hr2 43 (by decide), hr2 44 (by decide), hr2 45 (by decide), hr2 46 (by decide), hr2 47 (by decide)]; exact hB
                have hrid2 : ∀ r, r < n → (0 ≤ g2 57 r ∧ g2 57 r ≤ 6) ∧ st_ok (g2 63 r) ∧ -1 ≤ g2 60 r ∧ g2 60 r ≤ 10 := fun r hr => by rw [hr2 57 (by decide), hr2 63 (by decide), hr2 60 (by decide)]; exact hrid r hr
                have hmt2 : mt_I g2 b S := mt_same hS (hr2 51 (by decide)) (hr2 52 (by decide))
                have hbs2 : bs_I g2 S.length (-1, []) := ⟨by rw [eg2, ii_up_s], by decide, fun h => absurd (show (0 : Int) ≤ -1 from h) (by decide)⟩
                have hmB2 : mB g2 n b = mB f n b := mB_same (hr2 41 (by decide)) (hr2 43 (by decide)) (hr2 44 (by decide)) (hr2 45 (by decide)) (hr2 46 (by decide)) (hr2 47 (by decide)) (ab_same (hr2 57 (by decide)) (hr2 63 (by decide)) (hr2 60 (by decide)) b n)
                refine a_callV (o := 40) (As := [ii_v ((b : Nat) : Int), ii_v 0]) C (m_orders6 hl g2 w b hb hv2 hB2x (by rw [h32]; exact hnow) n (by rw [h30]; exact hn) hn30 hrid2 hmt2 hS6 hom2 (Pf := []) (fun j h => absurd h (Nat.not_lt_zero j)) (Nat.zero_le _) (fun j h => absurd h (Nat.not_lt_zero j)) (fun j h => absurd h (Nat.not_lt_zero j)) (by show 0 + 6 = S.length; omega) (-1, []) hbs2) co_X10_orders in_X10 ml_X10_253 im_X10_orders se_X10_orders rfl rfl ar_X10_orders ⟨by decide, by decide, by decide, by decide⟩ rfl (Nat.le_of_ble_eq_true rfl) dX10_findsBest_18 (a_dF ?_) a_nF
                intro vg9 g9 hvg9
                obtain ⟨rfl, hsg9, -, hfg9, h4g9⟩ := hvg9
                rw [hmB2, h32] at hsg9
                refine a_vret C ?_ (by decide) (by decide) dX10_findsBest_21
                rw [hPost]
                refine ab_F_of ⟨rfl, ?_, fun o2 h1 h2 h3 => (hfg9 o2 h1 h2 h3).trans (hr2 o2 h1), fun i h1 h2 h3 => (h4g9 i h1 h2).trans (by rw [eg2, ii_up_k _ _ h2, eg1, ii_up_k _ _ h3]), (h4g9 46 (by decide) (by decide)).trans hom2⟩
                rw [show S.length = 6 by omega]
                rw [show S.length = 6 by omega] at hsg9
                exact hsg9
              · skip
                exfalso
                omega
