/-! Orders: all orders of a tour, and those that are given up early. -/
theorem tn_out {g f : Nat → Nat → Int} {t : Nat} {S : List Nat} {v : Option Value} (h : (v = some (ii_v 0) ∧ g = f ∧ nx_last S) ∨ (v = some (ii_v 1) ∧ ∃ S2, ts_I g t S2 ∧ nx_R S S2 ∧ ∀ o, o ≠ t + 10 → g o = f o)) :
    ∃ z : Int, v = some (ii_v z) ∧ (0 ≤ z ∧ z ≤ 1) ∧ (z = 0 → g = f ∧ nx_last S) ∧ (z ≠ 0 → ∃ S2, ts_I g t S2 ∧ nx_R S S2 ∧ ∀ o, o ≠ t + 10 → g o = f o) := by
  rcases h with ⟨h1, h2⟩ | ⟨h1, h2⟩
  · exact ⟨0, h1, by omega, fun _ => h2, fun q => absurd rfl q⟩
  · exact ⟨1, h1, by omega, fun q => absurd q (by decide), fun _ => h2⟩
theorem pm_ok {S O : List Nat} {nr : Nat} (h : pm_L S O) (hq : ∀ j, j < S.length → S.getD j 0 / 2 ≤ nr) : ∀ j, j < O.length → O.getD j 0 / 2 ≤ nr := by
  intro j hj
  obtain ⟨m, hm, h2⟩ := gd_of_mem (d := 0) ((h.2.2 _).mp (gd_mem (d := 0) hj))
  rw [← h2]
  exact hq m hm
/-- a try of one order: what is the best then, and its length -/
def oa_t (v : Nat → Nat → Int) (β : Nat → Int) (now : Int) (O B : List Nat) (b : Int) : List Nat × Int :=
  if pl_len v (β 3) (β 4) O (β 6) (β 7) < b ∧ ¬ pl_ah O O 0 = true ∧ pl_fault v O (β 6) (β 7) now (β 9) (β 1) (β 3) (β 4) (β 8) = 0 then (O, pl_len v (β 3) (β 4) O (β 6) (β 7)) else (B, b)
/-- from the order O on, B the best before and b its bound, n tries at most: F is the best -/
def oa_R (v : Nat → Nat → Int) (β : Nat → Int) (now : Int) : Nat → List Nat → List Nat → Int → List Nat → Prop
  | 0, _, B, _, F => F = B
  | n + 1, O, B, b, F => (nx_last O ∧ F = (oa_t v β now O B b).1) ∨ ∃ O2, nx_R O O2 ∧ oa_R v β now n O2 (oa_t v β now O B b).1 (oa_t v β now O B b).2 F
/-- a try that may be given up: the order it leaves, the best, its length -/
def oe_s (v : Nat → Nat → Int) (β : Nat → Int) (now : Int) (O B : List Nat) (b : Int) (O2 B2 : List Nat) (b2 : Int) : Prop :=
  ((wk_f v O (β 1) (β 8) b (β 3) (β 4) now O 0 (β 6) (β 7) 0 (β 9) []).1 = -1 ∧ O2 = O ∧ B2 = O ∧ b2 = (wk_f v O (β 1) (β 8) b (β 3) (β 4) now O 0 (β 6) (β 7) 0 (β 9) []).2) ∨
  ∃ k : Nat, (wk_f v O (β 1) (β 8) b (β 3) (β 4) now O 0 (β 6) (β 7) 0 (β 9) []).1 = (k : Int) ∧ k < O.length ∧ so_P false (k + 1) O O2 ∧ B2 = B ∧ b2 = b
def oe_R (v : Nat → Nat → Int) (β : Nat → Int) (now : Int) : Nat → List Nat → List Nat → Int → List Nat → Prop
  | 0, _, B, _, F => F = B
  | n + 1, O, B, b, F => ∃ O1 B1 b1, oe_s v β now O B b O1 B1 b1 ∧ ((nx_last O1 ∧ F = B1) ∨ ∃ O2, nx_R O1 O2 ∧ oe_R v β now n O2 B1 b1 F)
section OO
variable {v : Nat → Nat → Int} {β : Nat → Int} {now : Int} {k : Nat} {O O2 O1 Os B B2 S : List Nat} {b b2 b0 : Int}
theorem oa_y (h1 : ¬ b ≤ pl_len v (β 3) (β 4) O (β 6) (β 7)) (h2 : ¬ pl_ah O O 0 = true) (h3 : pl_fault v O (β 6) (β 7) now (β 9) (β 1) (β 3) (β 4) (β 8) = 0) : oa_t v β now O B b = (O, pl_len v (β 3) (β 4) O (β 6) (β 7)) := if_pos ⟨Int.not_le.mp h1, h2, h3⟩
theorem oa_n (h : b ≤ pl_len v (β 3) (β 4) O (β 6) (β 7) ∨ pl_ah O O 0 = true ∨ ¬ pl_fault v O (β 6) (β 7) now (β 9) (β 1) (β 3) (β 4) (β 8) = 0) : oa_t v β now O B b = (B, b) := if_neg (fun q => h.elim (fun h => absurd q.1 (Int.not_lt.mpr h)) (fun h => h.elim q.2.1 (fun h => h q.2.2)))
theorem oa_go (hk : k < 720) (hE : ∀ F, oa_R v β now (720 - k) O B b F → oa_R v β now 720 O1 S b0 F) (ht : oa_t v β now O B b = (B2, b2)) (hn : nx_R O O2) : ∀ F, oa_R v β now (720 - (k + 1)) O2 B2 b2 F → oa_R v β now 720 O1 S b0 F := by
  intro F h
  refine hE F ?_
  rw [show 720 - k = 720 - (k + 1) + 1 by omega]
  exact Or.inr ⟨O2, hn, by rw [ht]; exact h⟩
theorem oa_end (hk : k < 720) (hE : ∀ F, oa_R v β now (720 - k) O B b F → oa_R v β now 720 O1 S b0 F) (ht : oa_t v β now O B b = (B2, b2)) (hn : nx_last O) : oa_R v β now 720 O1 S b0 B2 := by
  refine hE B2 ?_
  rw [show 720 - k = 720 - (k + 1) + 1 by omega]
  exact Or.inl ⟨hn, by rw [ht]⟩
theorem oe_go (hk : k < 720) (hE : ∀ F, oe_R v β now (720 - k) O B b F → oe_R v β now 720 O1 S b0 F) (ht : oe_s v β now O B b Os B2 b2) (hn : nx_R Os O2) : ∀ F, oe_R v β now (720 - (k + 1)) O2 B2 b2 F → oe_R v β now 720 O1 S b0 F := by
  intro F h
  refine hE F ?_
  rw [show 720 - k = 720 - (k + 1) + 1 by omega]
  exact ⟨Os, B2, b2, ht, Or.inr ⟨O2, hn, h⟩⟩
theorem oe_end (hk : k < 720) (hE : ∀ F, oe_R v β now (720 - k) O B b F → oe_R v β now 720 O1 S b0 F) (ht : oe_s v β now O B b Os B2 b2) (hn : nx_last Os) : oe_R v β now 720 O1 S b0 B2 := by
  refine hE B2 ?_
  rw [show 720 - k = 720 - (k + 1) + 1 by omega]
  exact ⟨Os, B2, b2, ht, Or.inl ⟨hn, rfl⟩⟩
end OO
set_option maxRecDepth 20000 in
set_option maxHeartbeats 2000000 in
theorem c_obegin {l : Launch} {E : ab_E} {base : Nat} (hl : l.stackTraces = false) {ad : Nat → Nat} (f : Nat → Nat → Int) (w : Nat × Nat × Int64 × UInt64) (hr : w.2.1 ≤ 30) {v : Nat → Nat → Int} (hv : pe_C f v w.2.1) {b : Nat} (hb : b < w.1) (h4 : w.1 ≤ 4) (hB : pb_B f (200 + b)) {S : List Nat} (hS : ts_I f (200 + b + 10) S) (hq : ∀ j, j < S.length → S.getD j 0 / 2 ≤ w.2.1) (hS6 : S.length ≤ 6) (hnd : nd_L S)  : ab_M l E base yX5_begin cX5_begin 2 none 8 0 0 [.ref (ad 17), .ref (ad (200 + b))] ab_x4 ad (f, w) (ab_F ad w (fun r g => r = none ∧ ts_I g 16 S ∧ (∃ O, ts_I g 15 O ∧ so_P true 0 S O) ∧ g 17 4 = pl_len v (f (200 + b) 3) (f (200 + b) 4) S (f (200 + b) 6) (f (200 + b) 7) + 1 ∧ ∀ o2, o2 ≠ 15 → o2 ≠ 16 → o2 ≠ 17 → o2 ≠ 25 → o2 ≠ 26 → g o2 = f o2)) := by
  obtain ⟨Post, hPost⟩ : ∃ P : ab_P, P = (ab_F ad w (fun r g => r = none ∧ ts_I g 16 S ∧ (∃ O, ts_I g 15 O ∧ so_P true 0 S O) ∧ g 17 4 = pl_len v (f (200 + b) 3) (f (200 + b) 4) S (f (200 + b) 6) (f (200 + b) 7) + 1 ∧ ∀ o2, o2 ≠ 15 → o2 ≠ 16 → o2 ≠ 17 → o2 ≠ 25 → o2 ≠ 26 → g o2 = f o2)) := ⟨_, rfl⟩
  rw [← hPost]
  refine ab_of RX5 [(0, .ref (ad 17)), (1, .ref (ad (200 + b)))] hl (by decide) rfl (Nat.le_of_ble_eq_true rfl) rfl ?_
  intro p e s m args below meth c C T0 hnm
  obtain ⟨hB1, hB3, hB4, hB6, hB7, hB8, hB9⟩ := id hB
  refine a_aload_n C dX5_begin_0 rfl ?_
  refine a_get (ci := 6) (i := 3) (v := .ref (ad 16)) C iw_X5 rfl (by decide) rfl fl_X5_18 rfl rfl dX5_begin_1 ?_
  refine a_aload_n C dX5_begin_4 rfl ?_
  refine a_getN (ci := 2) (i := 5) (v := .ref (ad (200 + b + 10))) C iw_X1 rfl (by decide) rfl fn_X5_72 (ob_bus hb h4) rfl dX5_begin_5 ?_
  refine a_callVN (o := 16) (As := [.ref (ad (200 + b + 10))]) C (c_copyFrom hl f w rfl rfl (ob_btour hb h4) (ar_btour hb h4) hS ⟨by omega, by omega, by omega, by omega⟩) co_X7_copyFrom in_X7 mn_X5_77 im_X7_copyFrom se_X7_copyFrom rfl rfl ar_X7_copyFrom ⟨by decide, by decide, by decide, by decide⟩ rfl (Nat.le_of_ble_eq_true rfl) dX5_begin_8 (a_dF ?_) a_nF
  intro vg1 g1 hvg1
  obtain ⟨rfl, hsg1, hfg1⟩ := hvg1
  have hwg1 : g1 (200 + b) = f (200 + b) := hfg1 (200 + b) (by omega) (by omega)
  have hBg1 : pb_B g1 (200 + b) := by unfold pb_B; rw [hwg1]; exact hB
  have hvg1p : pe_C g1 v w.2.1 := pe_same hv (fun o2 h => hfg1 o2 (by omega) (by omega))
  have hSg1 : ts_I g1 (200 + b + 10) S := ts_same hS (hfg1 _ (by omega) (by omega)) (hfg1 _ (by omega) (by omega))
  refine a_aload_n C dX5_begin_11 rfl ?_
  refine a_get (ci := 6) (i := 2) (v := .ref (ad 15)) C iw_X5 rfl (by decide) rfl fl_X5_12 rfl rfl dX5_begin_12 ?_
  refine a_aload_n C dX5_begin_15 rfl ?_
  refine a_getN (ci := 2) (i := 5) (v := .ref (ad (200 + b + 10))) C iw_X1 rfl (by decide) rfl fn_X5_72 (ob_bus hb h4) rfl dX5_begin_16 ?_
  refine a_callVN (o := 15) (As := [.ref (ad (200 + b + 10))]) C (c_copyFrom hl g1 w rfl rfl (ob_btour hb h4) (ar_btour hb h4) hSg1 ⟨by omega, by omega, by omega, by omega⟩) co_X7_copyFrom in_X7 mn_X5_77 im_X7_copyFrom se_X7_copyFrom rfl rfl ar_X7_copyFrom ⟨by decide, by decide, by decide, by decide⟩ rfl (Nat.le_of_ble_eq_true rfl) dX5_begin_19 (a_dF ?_) a_nF
  intro vg2 g2 hvg2
  obtain ⟨rfl, htg2, hfg2⟩ := hvg2
  have hsg2 : ts_I g2 16 S := ts_same hsg1 (hfg2 _ (by decide) (by decide)) (hfg2 _ (by decide) (by decide))
  have hwg2 : g2 (200 + b) = f (200 + b) := (hfg2 (200 + b) (by omega) (by omega)).trans (hfg1 (200 + b) (by omega) (by omega))
  have hBg2 : pb_B g2 (200 + b) := by unfold pb_B; rw [hwg2]; exact hB
  have hvg2p : pe_C g2 v w.2.1 := pe_same hv (fun o2 h => (hfg2 o2 (by omega) (by omega)).trans (hfg1 o2 (by omega) (by omega)))
  have hSg2 : ts_I g2 (200 + b + 10) S := ts_same hS ((hfg2 _ (by omega) (by omega)).trans (hfg1 _ (by omega) (by omega))) ((hfg2 _ (by omega) (by omega)).trans (hfg1 _ (by omega) (by omega)))
  refine a_aload_n C dX5_begin_22 rfl ?_
  refine a_get (ci := 6) (i := 2) (v := .ref (ad 15)) C iw_X5 rfl (by decide) rfl fl_X5_12 rfl rfl dX5_begin_23 ?_
  refine a_iconst C dX5_begin_26 ?_
  refine a_iconst C dX5_begin_27 ?_
  refine a_callVN (o := 15) (As := [ii_v 0, ii_v 1]) C (c_sortFrom hl g2 w rfl rfl htg2 hnd 0 (by omega) true) co_X7_sortFrom in_X7 mn_X5_68 im_X7_sortFrom se_X7_sortFrom rfl rfl ar_X7_sortFrom ⟨by decide, by decide, by decide, by decide⟩ rfl (Nat.le_of_ble_eq_true rfl) dX5_begin_28 (a_dF ?_) a_nF
  intro vg3 g3 hvg3
  obtain ⟨rfl, O, hog3, hpg3, hfg3⟩ := hvg3
  have hsg3 : ts_I g3 16 S := ts_same hsg2 (hfg3 _ (by decide)) (hfg3 _ (by decide))
  have hfr : ∀ o2, o2 ≠ 15 → o2 ≠ 16 → o2 ≠ 17 → o2 ≠ 25 → o2 ≠ 26 → g3 o2 = f o2 := fun o2 h1 h2 h3 h4 h5 => (hfg3 o2 h4).trans ((hfg2 o2 h1 h4).trans (hfg1 o2 h2 h5))
  have hwg3 : g3 (200 + b) = f (200 + b) := hfr (200 + b) (by omega) (by omega) (by omega) (by omega) (by omega)
  have hBg3 : pb_B g3 (200 + b) := by unfold pb_B; rw [hwg3]; exact hB
  have hvg3p : pe_C g3 v w.2.1 := pe_same hv (fun o2 h => hfr o2 (by omega) (by omega) (by omega) (by omega) (by omega))
  have hSg3 : ts_I g3 (200 + b + 10) S := ts_same hS (hfr _ (by omega) (by omega) (by omega) (by omega) (by omega)) (hfr _ (by omega) (by omega) (by omega) (by omega) (by omega))
  have hLb := len_b hB3 hB4 (fun q h => (hv.1 q h).2.2) S (f (200 + b) 6) (f (200 + b) 7) hq hB6 hB7
  refine a_aload_n C dX5_begin_31 rfl ?_
  refine a_aload_n C dX5_begin_32 rfl ?_
  refine a_get (ci := 6) (i := 0) (v := .ref (ad 9)) C iw_X5 rfl (by decide) rfl fl_X5_21 rfl rfl dX5_begin_33 ?_
  refine a_aload_n C dX5_begin_36 rfl ?_
  refine a_aload_n C dX5_begin_37 rfl ?_
  refine a_getN (ci := 2) (i := 5) (v := .ref (ad (200 + b + 10))) C iw_X1 rfl (by decide) rfl fn_X5_72 (ob_bus hb h4) rfl dX5_begin_38 ?_
  refine a_callVN (o := 9) (As := [.ref (ad (200 + b)), .ref (ad (200 + b + 10))]) C (c_lengthOf hl g3 w hr hvg3p (ob_bus hb h4) hBg3 (ob_btour hb h4) (ar_btour hb h4) hSg3 hq) co_X3_lengthOf in_X3 mn_X5_33 im_X3_lengthOf se_X3_lengthOf rfl rfl ar_X3_lengthOf ⟨by decide, by decide, by decide, by decide⟩ rfl (Nat.le_of_ble_eq_true rfl) dX5_begin_41 (a_dR ?_) a_nR
  rw [hwg3]
  refine a_iconst C dX5_begin_44 ?_
  refine a_iadd C dX5_begin_45 ?_
  refine a_put (ci := 6) (i := 4) C iw_X5 rfl (by decide) rfl tyX5 tyX5_ok nmX5 rfl rfl fl_X5_39 rfl rfl rfl rfl dX5_begin_46 ?_
  obtain ⟨g4, eg4⟩ : ∃ F : Nat → Nat → Int, F = ii_up g3 17 4 (pl_len v (f (200 + b) 3) (f (200 + b) 4) S (f (200 + b) 6) (f (200 + b) 7) + 1) := ⟨_, rfl⟩
  rw [← eg4]
  refine a_vret C ?_ (by decide) (by decide) dX5_begin_49
  rw [hPost]
  refine ab_F_of ⟨rfl, ?_, ⟨O, ?_, hpg3⟩, ?_, fun o2 h1 h2 h3 h4 h5 => ?_⟩
  · exact ts_same hsg3 (by rw [eg4]; exact ii_up_row _ _ (by decide)) (by rw [eg4]; exact ii_up_row _ _ (by decide))
  · exact ts_same hog3 (by rw [eg4]; exact ii_up_row _ _ (by decide)) (by rw [eg4]; exact ii_up_row _ _ (by decide))
  · rw [eg4, ii_up_s]
  · rw [eg4, ii_up_row _ _ h3]; exact hfr o2 h1 h2 h3 h4 h5
set_option maxRecDepth 20000 in
set_option maxHeartbeats 2000000 in
theorem c_okeep {l : Launch} {E : ab_E} {base : Nat} (hl : l.stackTraces = false) {ad : Nat → Nat} (f : Nat → Nat → Int) (w : Nat × Nat × Int64 × UInt64) {O : List Nat} (hO : ts_I f 15 O) (n : Int) : ab_M l E base yX5_keep cX5_keep 2 none 4 0 0 [.ref (ad 17), ii_v n] ab_x4 ad (f, w) (ab_F ad w (fun r g => r = none ∧ ts_I g 16 O ∧ g 17 4 = n ∧ ∀ o2, o2 ≠ 16 → o2 ≠ 17 → o2 ≠ 26 → g o2 = f o2)) := by
  obtain ⟨Post, hPost⟩ : ∃ P : ab_P, P = (ab_F ad w (fun r g => r = none ∧ ts_I g 16 O ∧ g 17 4 = n ∧ ∀ o2, o2 ≠ 16 → o2 ≠ 17 → o2 ≠ 26 → g o2 = f o2)) := ⟨_, rfl⟩
  rw [← hPost]
  refine ab_of RX5 [(0, .ref (ad 17)), (1, ii_v n)] hl (by decide) rfl (Nat.le_of_ble_eq_true rfl) rfl ?_
  intro p e s m args below meth c C T0 hnm
  refine a_aload_n C dX5_keep_0 rfl ?_
  refine a_get (ci := 6) (i := 3) (v := .ref (ad 16)) C iw_X5 rfl (by decide) rfl fl_X5_18 rfl rfl dX5_keep_1 ?_
  refine a_aload_n C dX5_keep_4 rfl ?_
  refine a_get (ci := 6) (i := 2) (v := .ref (ad 15)) C iw_X5 rfl (by decide) rfl fl_X5_12 rfl rfl dX5_keep_5 ?_
  refine a_callVN (o := 16) (As := [.ref (ad 15)]) C (c_copyFrom hl f w rfl rfl rfl rfl hO ⟨by decide, by decide, by decide, by decide⟩) co_X7_copyFrom in_X7 mn_X5_77 im_X7_copyFrom se_X7_copyFrom rfl rfl ar_X7_copyFrom ⟨by decide, by decide, by decide, by decide⟩ rfl (Nat.le_of_ble_eq_true rfl) dX5_keep_8 (a_dF ?_) a_nF
  intro vg1 g1 hvg1
  obtain ⟨rfl, hsg1, hfg1⟩ := hvg1
  refine a_aload_n C dX5_keep_11 rfl ?_
  refine a_iload_n C dX5_keep_12 rfl ?_
  refine a_put (ci := 6) (i := 4) C iw_X5 rfl (by decide) rfl tyX5 tyX5_ok nmX5 rfl rfl fl_X5_39 rfl rfl rfl rfl dX5_keep_13 ?_
  obtain ⟨g2, eg2⟩ : ∃ F : Nat → Nat → Int, F = ii_up g1 17 4 n := ⟨_, rfl⟩
  rw [← eg2]
  refine a_vret C ?_ (by decide) (by decide) dX5_keep_16
  rw [hPost]
  refine ab_F_of ⟨rfl, ?_, ?_, fun o2 h1 h2 h3 => ?_⟩
  · exact ts_same hsg1 (by rw [eg2]; exact ii_up_row _ _ (by decide)) (by rw [eg2]; exact ii_up_row _ _ (by decide))
  · rw [eg2, ii_up_s]
  · rw [eg2, ii_up_row _ _ h2]; exact hfg1 o2 h1 h3
set_option maxRecDepth 20000 in
set_option maxHeartbeats 2000000 in
theorem c_otryAll {l : Launch} {E : ab_E} {base : Nat} (hl : l.stackTraces = false) {ad : Nat → Nat} (f : Nat → Nat → Int) (w : Nat × Nat × Int64 × UInt64) (hr : w.2.1 ≤ 30) {v : Nat → Nat → Int} (hv : pe_C f v w.2.1) {b : Nat} (hb : b < w.1) (h4 : w.1 ≤ 4) (hB : pb_B f (200 + b)) {S : List Nat} (hS : ts_I f (200 + b + 10) S) (hq : ∀ j, j < S.length → S.getD j 0 / 2 ≤ w.2.1) (hS6 : S.length ≤ 6) (hnd : nd_L S) (now : Int) (hnow : 0 ≤ now ∧ now ≤ 100000)  : ab_M l E base yX5_tryAll cX5_tryAll 5 none 9 0 0 [.ref (ad 17), .ref (ad (200 + b)), ii_v now] ab_x4 ad (f, w) (ab_F ad w (fun r g => r = none ∧ (∃ O1 F, so_P true 0 S O1 ∧ ts_I g 16 F ∧ pm_L S F ∧ oa_R v (f (200 + b)) now 720 O1 S (pl_len v (f (200 + b) 3) (f (200 + b) 4) S (f (200 + b) 6) (f (200 + b) 7) + 1) F) ∧ ∀ o2, o2 ≠ 10 → o2 ≠ 11 → o2 ≠ 12 → o2 ≠ 15 → o2 ≠ 16 → o2 ≠ 17 → o2 ≠ 25 → o2 ≠ 26 → g o2 = f o2)) := by
  obtain ⟨Post, hPost⟩ : ∃ P : ab_P, P = (ab_F ad w (fun r g => r = none ∧ (∃ O1 F, so_P true 0 S O1 ∧ ts_I g 16 F ∧ pm_L S F ∧ oa_R v (f (200 + b)) now 720 O1 S (pl_len v (f (200 + b) 3) (f (200 + b) 4) S (f (200 + b) 6) (f (200 + b) 7) + 1) F) ∧ ∀ o2, o2 ≠ 10 → o2 ≠ 11 → o2 ≠ 12 → o2 ≠ 15 → o2 ≠ 16 → o2 ≠ 17 → o2 ≠ 25 → o2 ≠ 26 → g o2 = f o2)) := ⟨_, rfl⟩
  rw [← hPost]
  refine ab_of RX5 [(0, .ref (ad 17)), (1, .ref (ad (200 + b))), (2, ii_v now)] hl (by decide) rfl (Nat.le_of_ble_eq_true rfl) rfl ?_
  intro p e s m args below meth c C T0 hnm
  obtain ⟨hB1, hB3, hB4, hB6, hB7, hB8, hB9⟩ := id hB
  refine a_aload_n C dX5_tryAll_0 rfl ?_
  refine a_aload_n C dX5_tryAll_1 rfl ?_
  refine a_callV (o := 17) (As := [.ref (ad (200 + b))]) C (c_obegin hl f w hr hv hb h4 hB hS hq hS6 hnd) co_X5_begin in_X5 ml_X5_29 im_X5_begin se_X5_begin rfl rfl ar_X5_begin ⟨by decide, by decide, by decide, by decide⟩ rfl (Nat.le_of_ble_eq_true rfl) dX5_tryAll_2 (a_dF ?_) a_nF
  intro vg1 g1 hvg1
  obtain ⟨rfl, hsg1, ⟨O1, hog1, hp1⟩, hkg1, hfg1⟩ := hvg1
  have hLb := len_b hB3 hB4 (fun q h => (hv.1 q h).2.2) S (f (200 + b) 6) (f (200 + b) 7) hq hB6 hB7
  refine a_iconst C dX5_tryAll_5 ?_
  refine a_istore_n (L' := [(0, .ref (ad 17)), (1, .ref (ad (200 + b))), (2, ii_v now), (3, ii_v 0)]) C dX5_tryAll_6 (by decide) rfl ?_
  have loop7 : ∀ (NN7 : Nat) (k : Nat) (O : List Nat) (B : List Nat) (bd : Int) (g : Nat → Nat → Int), 720 - k < NN7 → (k ≤ 720) → (ts_I g 15 O) → (pm_L S O) → (ts_I g 16 B) → (pm_L S B) → (g 17 4 = bd) → (0 ≤ bd ∧ bd ≤ 2000) → (∀ o2, o2 ≠ 10 → o2 ≠ 11 → o2 ≠ 12 → o2 ≠ 15 → o2 ≠ 16 → o2 ≠ 17 → o2 ≠ 25 → o2 ≠ 26 → g o2 = f o2) → (∀ F, oa_R v (f (200 + b)) now (720 - k) O B bd F → oa_R v (f (200 + b)) now 720 O1 S (pl_len v (f (200 + b) 3) (f (200 + b) 4) S (f (200 + b) 6) (f (200 + b) 7) + 1) F) → ab_W p l e (ab_rm 9 0 0) s m args below meth c E base 5 (ab_Q below E base Post args s 0 0) ab_x4 ad (g, w) 0 0 7 [(0, .ref (ad 17)), (1, .ref (ad (200 + b))), (2, ii_v now), (3, ii_v ((k : Nat) : Int))] [] := by
    intro NN7
    induction NN7 with
    | zero => intro k O B bd g hNN; exact absurd hNN (Nat.not_lt_zero _)
    | succ NN7 ih7 =>
      intro k O B bd g hNN hk hOg hpO hTg hpB hkg hbb hfrg hE
      have hwg : g (200 + b) = f (200 + b) := hfrg (200 + b) (by omega) (by omega) (by omega) (by omega) (by omega) (by omega) (by omega) (by omega)
      have hBg : pb_B g (200 + b) := by unfold pb_B; rw [hwg]; exact hB
      have hvgp : pe_C g v w.2.1 := pe_same hv (fun o2 h => hfrg o2 (by omega) (by omega) (by omega) (by omega) (by omega) (by omega) (by omega) (by omega))
      have hSg : ts_I g (200 + b + 10) S := ts_same hS (hfrg _ (by omega) (by omega) (by omega) (by omega) (by omega) (by omega) (by omega) (by omega)) (hfrg _ (by omega) (by omega) (by omega) (by omega) (by omega) (by omega) (by omega) (by omega))
      have hqO := pm_ok hpO hq
      have hOl := hpO.1
      have hLb := len_b hB3 hB4 (fun q h => (hv.1 q h).2.2) O (f (200 + b) 6) (f (200 + b) 7) hqO hB6 hB7
      refine a_iload_n C dX5_tryAll_7 rfl ?_
      refine a_sipush C dX5_tryAll_8 (by decide) ?_
      refine a_icmp_ge (tgt := 92) C dX5_tryAll_11 rfl (by unfold ii_B; omega) (by unfold ii_B; omega) (fun h11 => ?_) (fun h11 => ?_)
      · skip
        refine a_vret C ?_ (by decide) (by decide) dX5_tryAll_92
        rw [hPost]
        exact ab_F_of ⟨rfl, ⟨O1, B, hp1, hTg, hpB, hE B (by rw [show 720 - k = 0 by omega]; exact rfl)⟩, hfrg⟩
      · skip
        refine a_aload_n C dX5_tryAll_14 rfl ?_
        refine a_get (ci := 6) (i := 0) (v := .ref (ad 9)) C iw_X5 rfl (by decide) rfl fl_X5_21 rfl rfl dX5_tryAll_15 ?_
        refine a_aload_n C dX5_tryAll_18 rfl ?_
        refine a_aload_n C dX5_tryAll_19 rfl ?_
        refine a_get (ci := 6) (i := 2) (v := .ref (ad 15)) C iw_X5 rfl (by decide) rfl fl_X5_12 rfl rfl dX5_tryAll_20 ?_
        refine a_callVN (o := 9) (As := [.ref (ad (200 + b)), .ref (ad 15)]) C (c_lengthOf hl g w hr hvgp (ob_bus hb h4) hBg rfl rfl hOg hqO) co_X3_lengthOf in_X3 mn_X5_33 im_X3_lengthOf se_X3_lengthOf rfl rfl ar_X3_lengthOf ⟨by decide, by decide, by decide, by decide⟩ rfl (Nat.le_of_ble_eq_true rfl) dX5_tryAll_23 (a_dR ?_) a_nR
        rw [hwg]
        refine a_istore (L' := [(0, .ref (ad 17)), (1, .ref (ad (200 + b))), (2, ii_v now), (3, ii_v ((k : Nat) : Int)), (4, ii_v (pl_len v (f (200 + b) 3) (f (200 + b) 4) O (f (200 + b) 6) (f (200 + b) 7)))]) C dX5_tryAll_26 (by decide) rfl ?_
        refine a_iload C dX5_tryAll_28 rfl ?_
        refine a_aload_n C dX5_tryAll_30 rfl ?_
        refine a_get (ci := 6) (i := 4) (v := ii_v (g 17 4)) C iw_X5 rfl (by decide) rfl fl_X5_39 rfl rfl dX5_tryAll_31 ?_
        refine a_top (w := ii_v bd) (congrArg (fun q => ii_v q) hkg) ?_
        refine a_icmp_ge (tgt := 73) C dX5_tryAll_34 rfl (by unfold ii_B; omega) (by unfold ii_B; omega) (fun h34 => ?_) (fun h34 => ?_)
        · skip
          refine a_aload_n C dX5_tryAll_73 rfl ?_
          refine a_get (ci := 6) (i := 2) (v := .ref (ad 15)) C iw_X5 rfl (by decide) rfl fl_X5_12 rfl rfl dX5_tryAll_74 ?_
          refine a_callVN (o := 15) (As := []) C (c_turnToNext hl g w rfl rfl hOg hpO.2.1) co_X7_turnToNext in_X7 mn_X5_55 im_X7_turnToNext se_X7_turnToNext rfl rfl ar_X7_turnToNext ⟨by decide, by decide, by decide, by decide⟩ rfl (Nat.le_of_ble_eq_true rfl) dX5_tryAll_77 (a_dF ?_) a_nF
          intro vg2 g2 hvg2
          obtain ⟨z, hz, hzb, hz0, hz1⟩ := tn_out hvg2
          subst hz
          have hftg2 : ∀ o2, o2 ≠ 25 → g2 o2 = g o2 := fun o2 h => (Decidable.em (z = 0)).elim (fun q => by rw [(hz0 q).1]) (fun q => by obtain ⟨_, _, _, q2⟩ := hz1 q; exact q2 o2 h)
          have hTg2 : ts_I g2 16 B := ts_same hTg (hftg2 _ (by decide)) (hftg2 _ (by decide))
          have hkg2 : g2 17 4 = bd := (congrFun (hftg2 17 (by decide)) 4).trans hkg
          have hfrg2 : ∀ o2, o2 ≠ 10 → o2 ≠ 11 → o2 ≠ 12 → o2 ≠ 15 → o2 ≠ 16 → o2 ≠ 17 → o2 ≠ 25 → o2 ≠ 26 → g2 o2 = f o2 := fun o2 h1 h2 h3 h4 h5 h6 h7 h8 => (hftg2 o2 h7).trans (hfrg o2 h1 h2 h3 h4 h5 h6 h7 h8)
          refine a_if_ne (tgt := 86) C dX5_tryAll_80 rfl (by unfold ii_B; omega) (fun h80 => ?_) (fun h80 => ?_)
          · skip
            obtain ⟨O2, ho2, hn2, -⟩ := hz1 h80
            refine a_iinc (L' := [(0, .ref (ad 17)), (1, .ref (ad (200 + b))), (2, ii_v now), (3, ii_v (((k : Nat) : Int) + 1)), (4, ii_v (pl_len v (f (200 + b) 3) (f (200 + b) 4) O (f (200 + b) 6) (f (200 + b) 7)))]) C dX5_tryAll_86 rfl (by decide) rfl ?_
            refine a_goto (tgt := 7) C dX5_tryAll_89 rfl ?_
            refine a_pick [0, 1, 2, 3] (L2 := [(0, .ref (ad 17)), (1, .ref (ad (200 + b))), (2, ii_v now), (3, ii_v (((k : Nat) : Int) + 1))]) rfl ?_
            exact ih7 (k + 1) O2 B bd g2 (by omega) (by omega) ho2 (pm_trans hpO hn2.1) hTg2 hpB hkg2 hbb hfrg2 (oa_go (by omega) hE (oa_n (Or.inl (by omega))) hn2)
          · skip
            have hla := (hz0 h80).2
            refine a_goto (tgt := 92) C dX5_tryAll_83 rfl ?_
            refine a_vret C ?_ (by decide) (by decide) dX5_tryAll_92
            rw [hPost]
            exact ab_F_of ⟨rfl, ⟨O1, B, hp1, hTg2, hpB, oa_end (by omega) hE (oa_n (Or.inl (by omega))) hla⟩, hfrg2⟩
        · skip
          refine a_aload_n C dX5_tryAll_37 rfl ?_
          refine a_get (ci := 6) (i := 0) (v := .ref (ad 9)) C iw_X5 rfl (by decide) rfl fl_X5_21 rfl rfl dX5_tryAll_38 ?_
          refine a_aload_n C dX5_tryAll_41 rfl ?_
          refine a_get (ci := 6) (i := 2) (v := .ref (ad 15)) C iw_X5 rfl (by decide) rfl fl_X5_12 rfl rfl dX5_tryAll_42 ?_
          refine a_callVN (o := 9) (As := [.ref (ad 15)]) C (c_dropsAhead hl g w hr hvgp rfl rfl hOg hqO) co_X3_dropsAheadOfPickup in_X3 mn_X5_43 im_X3_dropsAheadOfPickup se_X3_dropsAheadOfPickup rfl rfl ar_X3_dropsAheadOfPickup ⟨by decide, by decide, by decide, by decide⟩ rfl (Nat.le_of_ble_eq_true rfl) dX5_tryAll_45 (a_dR ?_) a_nR
          refine a_bif_ne (tgt := 73) C dX5_tryAll_48 rfl (fun h48 => ?_) (fun h48 => ?_)
          · skip
            refine a_aload_n C dX5_tryAll_73 rfl ?_
            refine a_get (ci := 6) (i := 2) (v := .ref (ad 15)) C iw_X5 rfl (by decide) rfl fl_X5_12 rfl rfl dX5_tryAll_74 ?_
            refine a_callVN (o := 15) (As := []) C (c_turnToNext hl g w rfl rfl hOg hpO.2.1) co_X7_turnToNext in_X7 mn_X5_55 im_X7_turnToNext se_X7_turnToNext rfl rfl ar_X7_turnToNext ⟨by decide, by decide, by decide, by decide⟩ rfl (Nat.le_of_ble_eq_true rfl) dX5_tryAll_77 (a_dF ?_) a_nF
            intro vg3 g3 hvg3
            obtain ⟨z, hz, hzb, hz0, hz1⟩ := tn_out hvg3
            subst hz
            have hftg3 : ∀ o2, o2 ≠ 25 → g3 o2 = g o2 := fun o2 h => (Decidable.em (z = 0)).elim (fun q => by rw [(hz0 q).1]) (fun q => by obtain ⟨_, _, _, q2⟩ := hz1 q; exact q2 o2 h)
            have hTg3 : ts_I g3 16 B := ts_same hTg (hftg3 _ (by decide)) (hftg3 _ (by decide))
            have hkg3 : g3 17 4 = bd := (congrFun (hftg3 17 (by decide)) 4).trans hkg
            have hfrg3 : ∀ o2, o2 ≠ 10 → o2 ≠ 11 → o2 ≠ 12 → o2 ≠ 15 → o2 ≠ 16 → o2 ≠ 17 → o2 ≠ 25 → o2 ≠ 26 → g3 o2 = f o2 := fun o2 h1 h2 h3 h4 h5 h6 h7 h8 => (hftg3 o2 h7).trans (hfrg o2 h1 h2 h3 h4 h5 h6 h7 h8)
            refine a_if_ne (tgt := 86) C dX5_tryAll_80 rfl (by unfold ii_B; omega) (fun h80 => ?_) (fun h80 => ?_)
            · skip
              obtain ⟨O2, ho2, hn2, -⟩ := hz1 h80
              refine a_iinc (L' := [(0, .ref (ad 17)), (1, .ref (ad (200 + b))), (2, ii_v now), (3, ii_v (((k : Nat) : Int) + 1)), (4, ii_v (pl_len v (f (200 + b) 3) (f (200 + b) 4) O (f (200 + b) 6) (f (200 + b) 7)))]) C dX5_tryAll_86 rfl (by decide) rfl ?_
              refine a_goto (tgt := 7) C dX5_tryAll_89 rfl ?_
              refine a_pick [0, 1, 2, 3] (L2 := [(0, .ref (ad 17)), (1, .ref (ad (200 + b))), (2, ii_v now), (3, ii_v (((k : Nat) : Int) + 1))]) rfl ?_
              exact ih7 (k + 1) O2 B bd g3 (by omega) (by omega) ho2 (pm_trans hpO hn2.1) hTg3 hpB hkg3 hbb hfrg3 (oa_go (by omega) hE (oa_n (Or.inr (Or.inl h48))) hn2)
            · skip
              have hla := (hz0 h80).2
              refine a_goto (tgt := 92) C dX5_tryAll_83 rfl ?_
              refine a_vret C ?_ (by decide) (by decide) dX5_tryAll_92
              rw [hPost]
              exact ab_F_of ⟨rfl, ⟨O1, B, hp1, hTg3, hpB, oa_end (by omega) hE (oa_n (Or.inr (Or.inl h48))) hla⟩, hfrg3⟩
          · skip
            refine a_aload_n C dX5_tryAll_51 rfl ?_
            refine a_get (ci := 6) (i := 0) (v := .ref (ad 9)) C iw_X5 rfl (by decide) rfl fl_X5_21 rfl rfl dX5_tryAll_52 ?_
            refine a_aload_n C dX5_tryAll_55 rfl ?_
            refine a_aload_n C dX5_tryAll_56 rfl ?_
            refine a_get (ci := 6) (i := 2) (v := .ref (ad 15)) C iw_X5 rfl (by decide) rfl fl_X5_12 rfl rfl dX5_tryAll_57 ?_
            refine a_iload_n C dX5_tryAll_60 rfl ?_
            refine a_callVN (o := 9) (As := [.ref (ad (200 + b)), .ref (ad 15), ii_v now]) C (c_faultOf hl g w hr hvgp (ob_bus hb h4) hBg rfl rfl hOg hqO now hnow) co_X3_faultOf in_X3 mn_X5_47 im_X3_faultOf se_X3_faultOf rfl rfl ar_X3_faultOf ⟨by decide, by decide, by decide, by decide⟩ rfl (Nat.le_of_ble_eq_true rfl) dX5_tryAll_61 (a_dF ?_) a_nF
            intro vg4 g4 hvg4
            obtain ⟨hr1, hTmg4, hfg4⟩ := hvg4
            rw [hwg] at hr1
            subst hr1
            have hFb := pl_fault_b v O (f (200 + b) 6) (f (200 + b) 7) now (f (200 + b) 9) (f (200 + b) 1) (f (200 + b) 3) (f (200 + b) 4) (f (200 + b) 8)
            have hOg4 : ts_I g4 15 O := ts_same hOg (hfg4 _ (by omega)) (hfg4 _ (by omega))
            have hTg4 : ts_I g4 16 B := ts_same hTg (hfg4 _ (by omega)) (hfg4 _ (by omega))
            have hkg4 : g4 17 4 = bd := (congrFun (hfg4 17 (by omega)) 4).trans hkg
            have hfrg4 : ∀ o2, o2 ≠ 10 → o2 ≠ 11 → o2 ≠ 12 → o2 ≠ 15 → o2 ≠ 16 → o2 ≠ 17 → o2 ≠ 25 → o2 ≠ 26 → g4 o2 = f o2 := fun o2 h1 h2 h3 h4 h5 h6 h7 h8 => (hfg4 o2 (by omega)).trans (hfrg o2 h1 h2 h3 h4 h5 h6 h7 h8)
            refine a_if_ne (tgt := 73) C dX5_tryAll_64 rfl (by unfold ii_B; omega) (fun h64 => ?_) (fun h64 => ?_)
            · skip
              refine a_aload_n C dX5_tryAll_73 rfl ?_
              refine a_get (ci := 6) (i := 2) (v := .ref (ad 15)) C iw_X5 rfl (by decide) rfl fl_X5_12 rfl rfl dX5_tryAll_74 ?_
              refine a_callVN (o := 15) (As := []) C (c_turnToNext hl g4 w rfl rfl hOg4 hpO.2.1) co_X7_turnToNext in_X7 mn_X5_55 im_X7_turnToNext se_X7_turnToNext rfl rfl ar_X7_turnToNext ⟨by decide, by decide, by decide, by decide⟩ rfl (Nat.le_of_ble_eq_true rfl) dX5_tryAll_77 (a_dF ?_) a_nF
              intro vg5 g5 hvg5
              obtain ⟨z, hz, hzb, hz0, hz1⟩ := tn_out hvg5
              subst hz
              have hftg5 : ∀ o2, o2 ≠ 25 → g5 o2 = g4 o2 := fun o2 h => (Decidable.em (z = 0)).elim (fun q => by rw [(hz0 q).1]) (fun q => by obtain ⟨_, _, _, q2⟩ := hz1 q; exact q2 o2 h)
              have hTg5 : ts_I g5 16 B := ts_same hTg4 (hftg5 _ (by decide)) (hftg5 _ (by decide))
              have hkg5 : g5 17 4 = bd := (congrFun (hftg5 17 (by decide)) 4).trans hkg4
              have hfrg5 : ∀ o2, o2 ≠ 10 → o2 ≠ 11 → o2 ≠ 12 → o2 ≠ 15 → o2 ≠ 16 → o2 ≠ 17 → o2 ≠ 25 → o2 ≠ 26 → g5 o2 = f o2 := fun o2 h1 h2 h3 h4 h5 h6 h7 h8 => (hftg5 o2 h7).trans (hfrg4 o2 h1 h2 h3 h4 h5 h6 h7 h8)
              refine a_if_ne (tgt := 86) C dX5_tryAll_80 rfl (by unfold ii_B; omega) (fun h80 => ?_) (fun h80 => ?_)
              · skip
                obtain ⟨O2, ho2, hn2, -⟩ := hz1 h80
                refine a_iinc (L' := [(0, .ref (ad 17)), (1, .ref (ad (200 + b))), (2, ii_v now), (3, ii_v (((k : Nat) : Int) + 1)), (4, ii_v (pl_len v (f (200 + b) 3) (f (200 + b) 4) O (f (200 + b) 6) (f (200 + b) 7)))]) C dX5_tryAll_86 rfl (by decide) rfl ?_
                refine a_goto (tgt := 7) C dX5_tryAll_89 rfl ?_
                refine a_pick [0, 1, 2, 3] (L2 := [(0, .ref (ad 17)), (1, .ref (ad (200 + b))), (2, ii_v now), (3, ii_v (((k : Nat) : Int) + 1))]) rfl ?_
                exact ih7 (k + 1) O2 B bd g5 (by omega) (by omega) ho2 (pm_trans hpO hn2.1) hTg5 hpB hkg5 hbb hfrg5 (oa_go (by omega) hE (oa_n (Or.inr (Or.inr h64))) hn2)
              · skip
                have hla := (hz0 h80).2
                refine a_goto (tgt := 92) C dX5_tryAll_83 rfl ?_
                refine a_vret C ?_ (by decide) (by decide) dX5_tryAll_92
                rw [hPost]
                exact ab_F_of ⟨rfl, ⟨O1, B, hp1, hTg5, hpB, oa_end (by omega) hE (oa_n (Or.inr (Or.inr h64))) hla⟩, hfrg5⟩
            · skip
              refine a_aload_n C dX5_tryAll_67 rfl ?_
              refine a_iload C dX5_tryAll_68 rfl ?_
              refine a_callV (o := 17) (As := [ii_v (pl_len v (f (200 + b) 3) (f (200 + b) 4) O (f (200 + b) 6) (f (200 + b) 7))]) C (c_okeep hl g4 w hOg4 (pl_len v (f (200 + b) 3) (f (200 + b) 4) O (f (200 + b) 6) (f (200 + b) 7))) co_X5_keep in_X5 ml_X5_51 im_X5_keep se_X5_keep rfl rfl ar_X5_keep ⟨by decide, by decide, by decide, by decide⟩ rfl (Nat.le_of_ble_eq_true rfl) dX5_tryAll_70 (a_dF ?_) a_nF
              intro vg6 g6 hvg6
              obtain ⟨rfl, hTg6, hkg6, hfg6⟩ := hvg6
              have hOg6 : ts_I g6 15 O := ts_same hOg4 (hfg6 _ (by decide) (by decide) (by decide)) (hfg6 _ (by decide) (by decide) (by decide))
              have hfrg6 : ∀ o2, o2 ≠ 10 → o2 ≠ 11 → o2 ≠ 12 → o2 ≠ 15 → o2 ≠ 16 → o2 ≠ 17 → o2 ≠ 25 → o2 ≠ 26 → g6 o2 = f o2 := fun o2 h1 h2 h3 h4 h5 h6 h7 h8 => (hfg6 o2 h5 h6 h8).trans (hfrg4 o2 h1 h2 h3 h4 h5 h6 h7 h8)
              refine a_aload_n C dX5_tryAll_73 rfl ?_
              refine a_get (ci := 6) (i := 2) (v := .ref (ad 15)) C iw_X5 rfl (by decide) rfl fl_X5_12 rfl rfl dX5_tryAll_74 ?_
              refine a_callVN (o := 15) (As := []) C (c_turnToNext hl g6 w rfl rfl hOg6 hpO.2.1) co_X7_turnToNext in_X7 mn_X5_55 im_X7_turnToNext se_X7_turnToNext rfl rfl ar_X7_turnToNext ⟨by decide, by decide, by decide, by decide⟩ rfl (Nat.le_of_ble_eq_true rfl) dX5_tryAll_77 (a_dF ?_) a_nF
              intro vg7 g7 hvg7
              obtain ⟨z, hz, hzb, hz0, hz1⟩ := tn_out hvg7
              subst hz
              have hftg7 : ∀ o2, o2 ≠ 25 → g7 o2 = g6 o2 := fun o2 h => (Decidable.em (z = 0)).elim (fun q => by rw [(hz0 q).1]) (fun q => by obtain ⟨_, _, _, q2⟩ := hz1 q; exact q2 o2 h)
              have hTg7 : ts_I g7 16 O := ts_same hTg6 (hftg7 _ (by decide)) (hftg7 _ (by decide))
              have hkg7 : g7 17 4 = pl_len v (f (200 + b) 3) (f (200 + b) 4) O (f (200 + b) 6) (f (200 + b) 7) := (congrFun (hftg7 17 (by decide)) 4).trans hkg6
              have hfrg7 : ∀ o2, o2 ≠ 10 → o2 ≠ 11 → o2 ≠ 12 → o2 ≠ 15 → o2 ≠ 16 → o2 ≠ 17 → o2 ≠ 25 → o2 ≠ 26 → g7 o2 = f o2 := fun o2 h1 h2 h3 h4 h5 h6 h7 h8 => (hftg7 o2 h7).trans (hfrg6 o2 h1 h2 h3 h4 h5 h6 h7 h8)
              refine a_if_ne (tgt := 86) C dX5_tryAll_80 rfl (by unfold ii_B; omega) (fun h80 => ?_) (fun h80 => ?_)
              · skip
                obtain ⟨O2, ho2, hn2, -⟩ := hz1 h80
                refine a_iinc (L' := [(0, .ref (ad 17)), (1, .ref (ad (200 + b))), (2, ii_v now), (3, ii_v (((k : Nat) : Int) + 1)), (4, ii_v (pl_len v (f (200 + b) 3) (f (200 + b) 4) O (f (200 + b) 6) (f (200 + b) 7)))]) C dX5_tryAll_86 rfl (by decide) rfl ?_
                refine a_goto (tgt := 7) C dX5_tryAll_89 rfl ?_
                refine a_pick [0, 1, 2, 3] (L2 := [(0, .ref (ad 17)), (1, .ref (ad (200 + b))), (2, ii_v now), (3, ii_v (((k : Nat) : Int) + 1))]) rfl ?_
                exact ih7 (k + 1) O2 O (pl_len v (f (200 + b) 3) (f (200 + b) 4) O (f (200 + b) 6) (f (200 + b) 7)) g7 (by omega) (by omega) ho2 (pm_trans hpO hn2.1) hTg7 hpO hkg7 (by omega) hfrg7 (oa_go (by omega) hE (oa_y h34 h48 h64) hn2)
              · skip
                have hla := (hz0 h80).2
                refine a_goto (tgt := 92) C dX5_tryAll_83 rfl ?_
                refine a_vret C ?_ (by decide) (by decide) dX5_tryAll_92
                rw [hPost]
                exact ab_F_of ⟨rfl, ⟨O1, O, hp1, hTg7, hpO, oa_end (by omega) hE (oa_y h34 h48 h64) hla⟩, hfrg7⟩
  exact loop7 (_ + 1) 0 O1 S (pl_len v (f (200 + b) 3) (f (200 + b) 4) S (f (200 + b) 6) (f (200 + b) 7) + 1) g1 (Nat.lt_succ_self _) (Nat.zero_le _) hog1 hp1.1 hsg1 (pm_refl hnd) hkg1 (by omega) (fun o2 h1 h2 h3 h4 h5 h6 h7 h8 => hfg1 o2 h4 h5 h6 h7 h8) (fun F h => h)
set_option maxRecDepth 20000 in
set_option maxHeartbeats 2000000 in
theorem c_otryEarly {l : Launch} {E : ab_E} {base : Nat} (hl : l.stackTraces = false) {ad : Nat → Nat} (f : Nat → Nat → Int) (w : Nat × Nat × Int64 × UInt64) (hr : w.2.1 ≤ 30) {v : Nat → Nat → Int} (hv : pe_C f v w.2.1) {b : Nat} (hb : b < w.1) (h4 : w.1 ≤ 4) (hB : pb_B f (200 + b)) {S : List Nat} (hS : ts_I f (200 + b + 10) S) (hq : ∀ j, j < S.length → S.getD j 0 / 2 ≤ w.2.1) (hS6 : S.length ≤ 6) (hnd : nd_L S) (now : Int) (hnow : 0 ≤ now ∧ now ≤ 100000)  : ab_M l E base yX5_tryEarly cX5_tryEarly 5 none 9 0 0 [.ref (ad 17), .ref (ad (200 + b)), ii_v now] ab_x4 ad (f, w) (ab_F ad w (fun r g => r = none ∧ (∃ O1 F, so_P true 0 S O1 ∧ ts_I g 16 F ∧ pm_L S F ∧ oe_R v (f (200 + b)) now 720 O1 S (pl_len v (f (200 + b) 3) (f (200 + b) 4) S (f (200 + b) 6) (f (200 + b) 7) + 1) F) ∧ ∀ o2, o2 ≠ 10 → o2 ≠ 11 → o2 ≠ 12 → o2 ≠ 15 → o2 ≠ 16 → o2 ≠ 17 → o2 ≠ 25 → o2 ≠ 26 → g o2 = f o2)) := by
  obtain ⟨Post, hPost⟩ : ∃ P : ab_P, P = (ab_F ad w (fun r g => r = none ∧ (∃ O1 F, so_P true 0 S O1 ∧ ts_I g 16 F ∧ pm_L S F ∧ oe_R v (f (200 + b)) now 720 O1 S (pl_len v (f (200 + b) 3) (f (200 + b) 4) S (f (200 + b) 6) (f (200 + b) 7) + 1) F) ∧ ∀ o2, o2 ≠ 10 → o2 ≠ 11 → o2 ≠ 12 → o2 ≠ 15 → o2 ≠ 16 → o2 ≠ 17 → o2 ≠ 25 → o2 ≠ 26 → g o2 = f o2)) := ⟨_, rfl⟩
  rw [← hPost]
  refine ab_of RX5 [(0, .ref (ad 17)), (1, .ref (ad (200 + b))), (2, ii_v now)] hl (by decide) rfl (Nat.le_of_ble_eq_true rfl) rfl ?_
  intro p e s m args below meth c C T0 hnm
  obtain ⟨hB1, hB3, hB4, hB6, hB7, hB8, hB9⟩ := id hB
  refine a_aload_n C dX5_tryEarly_0 rfl ?_
  refine a_aload_n C dX5_tryEarly_1 rfl ?_
  refine a_callV (o := 17) (As := [.ref (ad (200 + b))]) C (c_obegin hl f w hr hv hb h4 hB hS hq hS6 hnd) co_X5_begin in_X5 ml_X5_29 im_X5_begin se_X5_begin rfl rfl ar_X5_begin ⟨by decide, by decide, by decide, by decide⟩ rfl (Nat.le_of_ble_eq_true rfl) dX5_tryEarly_2 (a_dF ?_) a_nF
  intro vg1 g1 hvg1
  obtain ⟨rfl, hsg1, ⟨O1, hog1, hp1⟩, hkg1, hfg1⟩ := hvg1
  have hLb := len_b hB3 hB4 (fun q h => (hv.1 q h).2.2) S (f (200 + b) 6) (f (200 + b) 7) hq hB6 hB7
  refine a_iconst C dX5_tryEarly_5 ?_
  refine a_istore_n (L' := [(0, .ref (ad 17)), (1, .ref (ad (200 + b))), (2, ii_v now), (3, ii_v 0)]) C dX5_tryEarly_6 (by decide) rfl ?_
  have loop7 : ∀ (NN7 : Nat) (k : Nat) (O : List Nat) (B : List Nat) (bd : Int) (g : Nat → Nat → Int), 720 - k < NN7 → (k ≤ 720) → (ts_I g 15 O) → (pm_L S O) → (ts_I g 16 B) → (pm_L S B) → (g 17 4 = bd) → (0 ≤ bd ∧ bd ≤ 2000) → (∀ o2, o2 ≠ 10 → o2 ≠ 11 → o2 ≠ 12 → o2 ≠ 15 → o2 ≠ 16 → o2 ≠ 17 → o2 ≠ 25 → o2 ≠ 26 → g o2 = f o2) → (∀ F, oe_R v (f (200 + b)) now (720 - k) O B bd F → oe_R v (f (200 + b)) now 720 O1 S (pl_len v (f (200 + b) 3) (f (200 + b) 4) S (f (200 + b) 6) (f (200 + b) 7) + 1) F) → ab_W p l e (ab_rm 9 0 0) s m args below meth c E base 5 (ab_Q below E base Post args s 0 0) ab_x4 ad (g, w) 0 0 7 [(0, .ref (ad 17)), (1, .ref (ad (200 + b))), (2, ii_v now), (3, ii_v ((k : Nat) : Int))] [] := by
    intro NN7
    induction NN7 with
    | zero => intro k O B bd g hNN; exact absurd hNN (Nat.not_lt_zero _)
    | succ NN7 ih7 =>
      intro k O B bd g hNN hk hOg hpO hTg hpB hkg hbb hfrg hE
      have hwg : g (200 + b) = f (200 + b) := hfrg (200 + b) (by omega) (by omega) (by omega) (by omega) (by omega) (by omega) (by omega) (by omega)
      have hBg : pb_B g (200 + b) := by unfold pb_B; rw [hwg]; exact hB
      have hvgp : pe_C g v w.2.1 := pe_same hv (fun o2 h => hfrg o2 (by omega) (by omega) (by omega) (by omega) (by omega) (by omega) (by omega) (by omega))
      have hSg : ts_I g (200 + b + 10) S := ts_same hS (hfrg _ (by omega) (by omega) (by omega) (by omega) (by omega) (by omega) (by omega) (by omega)) (hfrg _ (by omega) (by omega) (by omega) (by omega) (by omega) (by omega) (by omega) (by omega))
      have hqO := pm_ok hpO hq
      have hOl := hpO.1
      have hLb := len_b hB3 hB4 (fun q h => (hv.1 q h).2.2) O (f (200 + b) 6) (f (200 + b) 7) hqO hB6 hB7
      refine a_iload_n C dX5_tryEarly_7 rfl ?_
      refine a_sipush C dX5_tryEarly_8 (by decide) ?_
      refine a_icmp_ge (tgt := 84) C dX5_tryEarly_11 rfl (by unfold ii_B; omega) (by unfold ii_B; omega) (fun h11 => ?_) (fun h11 => ?_)
      · skip
        refine a_vret C ?_ (by decide) (by decide) dX5_tryEarly_84
        rw [hPost]
        exact ab_F_of ⟨rfl, ⟨O1, B, hp1, hTg, hpB, hE B (by rw [show 720 - k = 0 by omega]; exact rfl)⟩, hfrg⟩
      · skip
        refine a_aload_n C dX5_tryEarly_14 rfl ?_
        refine a_get (ci := 6) (i := 1) (v := .ref (ad 11)) C iw_X5 rfl (by decide) rfl fl_X5_25 rfl rfl dX5_tryEarly_15 ?_
        refine a_aload_n C dX5_tryEarly_18 rfl ?_
        refine a_aload_n C dX5_tryEarly_19 rfl ?_
        refine a_get (ci := 6) (i := 2) (v := .ref (ad 15)) C iw_X5 rfl (by decide) rfl fl_X5_12 rfl rfl dX5_tryEarly_20 ?_
        refine a_iload_n C dX5_tryEarly_23 rfl ?_
        refine a_aload_n C dX5_tryEarly_24 rfl ?_
        refine a_get (ci := 6) (i := 4) (v := ii_v (g 17 4)) C iw_X5 rfl (by decide) rfl fl_X5_39 rfl rfl dX5_tryEarly_25 ?_
        refine a_top (w := ii_v bd) (congrArg (fun q => ii_v q) hkg) ?_
        refine a_callVN (o := 11) (As := [.ref (ad (200 + b)), .ref (ad 15), ii_v now, ii_v bd]) C (c_follow hl g w hr hvgp (ob_bus hb h4) hBg rfl rfl hOg hqO now hnow bd (by omega) (ls_pr O)) co_X8_follow in_X8 mn_X5_59 im_X8_follow se_X8_follow rfl rfl ar_X8_follow ⟨by decide, by decide, by decide, by decide⟩ rfl (Nat.le_of_ble_eq_true rfl) dX5_tryEarly_28 (a_dF ?_) a_nF
        intro vg2 g2 hvg2
        obtain ⟨-, hw2, hfg2⟩ := hvg2
        obtain ⟨hw3, hw4⟩ := hw2 (by omega)
        rw [hwg] at hw3 hw4
        have hWb := wk_b hB3 hB4 (fun q h => (hv.1 q h).2.2) O (f (200 + b) 1) (f (200 + b) 8) bd now O 0 (f (200 + b) 6) (f (200 + b) 7) 0 (f (200 + b) 9) [] hqO hB6 hB7 (by omega)
        have hWr := wk_rng v O (f (200 + b) 1) (f (200 + b) 8) bd (f (200 + b) 3) (f (200 + b) 4) now O 0 (f (200 + b) 6) (f (200 + b) 7) 0 (f (200 + b) 9) []
        obtain ⟨rv, hrv⟩ : ∃ rv : Int, (wk_f v O (f (200 + b) 1) (f (200 + b) 8) bd (f (200 + b) 3) (f (200 + b) 4) now O 0 (f (200 + b) 6) (f (200 + b) 7) 0 (f (200 + b) 9) []).1 = rv := ⟨_, rfl⟩
        rw [hrv] at hw3 hWr
        subst hw3
        have hrb : -1 ≤ rv ∧ rv ≤ 8 := by rcases hWr with q | ⟨j, q, -, q3⟩ <;> omega
        have hOg2 : ts_I g2 15 O := ts_same hOg (hfg2 _ (by omega) (by omega)) (hfg2 _ (by omega) (by omega))
        have hTg2 : ts_I g2 16 B := ts_same hTg (hfg2 _ (by omega) (by omega)) (hfg2 _ (by omega) (by omega))
        have hkg2 : g2 17 4 = bd := (congrFun (hfg2 17 (by omega) (by omega)) 4).trans hkg
        have hfrg2 : ∀ o2, o2 ≠ 10 → o2 ≠ 11 → o2 ≠ 12 → o2 ≠ 15 → o2 ≠ 16 → o2 ≠ 17 → o2 ≠ 25 → o2 ≠ 26 → g2 o2 = f o2 := fun o2 h1 h2 h3 h4 h5 h6 h7 h8 => (hfg2 o2 (by omega) (by omega)).trans (hfrg o2 h1 h2 h3 h4 h5 h6 h7 h8)
        refine a_istore (L' := [(0, .ref (ad 17)), (1, .ref (ad (200 + b))), (2, ii_v now), (3, ii_v ((k : Nat) : Int)), (4, ii_v rv)]) C dX5_tryEarly_31 (by decide) rfl ?_
        refine a_iload C dX5_tryEarly_33 rfl ?_
        refine a_iconst C dX5_tryEarly_35 ?_
        refine a_icmp_ne (tgt := 53) C dX5_tryEarly_36 rfl (by unfold ii_B; omega) (by unfold ii_B; omega) (fun h36 => ?_) (fun h36 => ?_)
        · skip
          obtain ⟨j, rfl, -, hj3⟩ := hWr.resolve_left (by omega)
          clear hWr
          refine a_aload_n C dX5_tryEarly_53 rfl ?_
          refine a_get (ci := 6) (i := 2) (v := .ref (ad 15)) C iw_X5 rfl (by decide) rfl fl_X5_12 rfl rfl dX5_tryEarly_54 ?_
          refine a_iload C dX5_tryEarly_57 rfl ?_
          refine a_iconst C dX5_tryEarly_59 ?_
          refine a_iadd C dX5_tryEarly_60 ?_
          refine a_iconst C dX5_tryEarly_61 ?_
          refine a_callVN (o := 15) (As := [ii_v (((j : Nat) : Int) + 1), ii_v 0]) C (c_sortFrom hl g2 w rfl rfl hOg2 hpO.2.1 (j + 1) (by omega) false) co_X7_sortFrom in_X7 mn_X5_68 im_X7_sortFrom se_X7_sortFrom rfl rfl ar_X7_sortFrom ⟨by decide, by decide, by decide, by decide⟩ rfl (Nat.le_of_ble_eq_true rfl) dX5_tryEarly_62 (a_dF ?_) a_nF
          intro vg3 g3 hvg3
          obtain ⟨rfl, Os, hOg3, hps, hfg3⟩ := hvg3
          have hTg3 : ts_I g3 16 B := ts_same hTg2 (hfg3 _ (by decide)) (hfg3 _ (by decide))
          have hkg3 : g3 17 4 = bd := (congrFun (hfg3 17 (by decide)) 4).trans hkg2
          have hfrg3 : ∀ o2, o2 ≠ 10 → o2 ≠ 11 → o2 ≠ 12 → o2 ≠ 15 → o2 ≠ 16 → o2 ≠ 17 → o2 ≠ 25 → o2 ≠ 26 → g3 o2 = f o2 := fun o2 h1 h2 h3 h4 h5 h6 h7 h8 => (hfg3 o2 h7).trans (hfrg2 o2 h1 h2 h3 h4 h5 h6 h7 h8)
          refine a_aload_n C dX5_tryEarly_65 rfl ?_
          refine a_get (ci := 6) (i := 2) (v := .ref (ad 15)) C iw_X5 rfl (by decide) rfl fl_X5_12 rfl rfl dX5_tryEarly_66 ?_
          refine a_callVN (o := 15) (As := []) C (c_turnToNext hl g3 w rfl rfl hOg3 (pm_trans hpO hps.1).2.1) co_X7_turnToNext in_X7 mn_X5_55 im_X7_turnToNext se_X7_turnToNext rfl rfl ar_X7_turnToNext ⟨by decide, by decide, by decide, by decide⟩ rfl (Nat.le_of_ble_eq_true rfl) dX5_tryEarly_69 (a_dF ?_) a_nF
          intro vg4 g4 hvg4
          obtain ⟨z, hz, hzb, hz0, hz1⟩ := tn_out hvg4
          subst hz
          have hftg4 : ∀ o2, o2 ≠ 25 → g4 o2 = g3 o2 := fun o2 h => (Decidable.em (z = 0)).elim (fun q => by rw [(hz0 q).1]) (fun q => by obtain ⟨_, _, _, q2⟩ := hz1 q; exact q2 o2 h)
          have hTg4 : ts_I g4 16 B := ts_same hTg3 (hftg4 _ (by decide)) (hftg4 _ (by decide))
          have hkg4 : g4 17 4 = bd := (congrFun (hftg4 17 (by decide)) 4).trans hkg3
          have hfrg4 : ∀ o2, o2 ≠ 10 → o2 ≠ 11 → o2 ≠ 12 → o2 ≠ 15 → o2 ≠ 16 → o2 ≠ 17 → o2 ≠ 25 → o2 ≠ 26 → g4 o2 = f o2 := fun o2 h1 h2 h3 h4 h5 h6 h7 h8 => (hftg4 o2 h7).trans (hfrg3 o2 h1 h2 h3 h4 h5 h6 h7 h8)
          refine a_if_ne (tgt := 78) C dX5_tryEarly_72 rfl (by unfold ii_B; omega) (fun h72 => ?_) (fun h72 => ?_)
          · skip
            obtain ⟨O2, ho2, hn2, -⟩ := hz1 h72
            refine a_iinc (L' := [(0, .ref (ad 17)), (1, .ref (ad (200 + b))), (2, ii_v now), (3, ii_v (((k : Nat) : Int) + 1)), (4, ii_v ((j : Nat) : Int))]) C dX5_tryEarly_78 rfl (by decide) rfl ?_
            refine a_goto (tgt := 7) C dX5_tryEarly_81 rfl ?_
            refine a_pick [0, 1, 2, 3] (L2 := [(0, .ref (ad 17)), (1, .ref (ad (200 + b))), (2, ii_v now), (3, ii_v (((k : Nat) : Int) + 1))]) rfl ?_
            exact ih7 (k + 1) O2 B bd g4 (by omega) (by omega) ho2 (pm_trans (pm_trans hpO hps.1) hn2.1) hTg4 hpB hkg4 hbb hfrg4 (oe_go (by omega) hE (Or.inr ⟨j, hrv, by omega, hps, rfl, rfl⟩) hn2)
          · skip
            have hla := (hz0 h72).2
            refine a_goto (tgt := 84) C dX5_tryEarly_75 rfl ?_
            refine a_vret C ?_ (by decide) (by decide) dX5_tryEarly_84
            rw [hPost]
            exact ab_F_of ⟨rfl, ⟨O1, B, hp1, hTg4, hpB, oe_end (by omega) hE (Or.inr ⟨j, hrv, by omega, hps, rfl, rfl⟩) hla⟩, hfrg4⟩
        · skip
          clear hWr
          refine a_aload_n C dX5_tryEarly_39 rfl ?_
          refine a_aload_n C dX5_tryEarly_40 rfl ?_
          refine a_get (ci := 6) (i := 1) (v := .ref (ad 11)) C iw_X5 rfl (by decide) rfl fl_X5_25 rfl rfl dX5_tryEarly_41 ?_
          refine a_getN (ci := 9) (i := 6) (v := ii_v (g2 11 6)) C iw_X8 rfl (by decide) rfl fn_X5_65 rfl rfl dX5_tryEarly_44 ?_
          refine a_top (w := ii_v ((wk_f v O (f (200 + b) 1) (f (200 + b) 8) bd (f (200 + b) 3) (f (200 + b) 4) now O 0 (f (200 + b) 6) (f (200 + b) 7) 0 (f (200 + b) 9) []).2)) (congrArg (fun q => ii_v q) hw4) ?_
          refine a_callV (o := 17) (As := [ii_v ((wk_f v O (f (200 + b) 1) (f (200 + b) 8) bd (f (200 + b) 3) (f (200 + b) 4) now O 0 (f (200 + b) 6) (f (200 + b) 7) 0 (f (200 + b) 9) []).2)]) C (c_okeep hl g2 w hOg2 (wk_f v O (f (200 + b) 1) (f (200 + b) 8) bd (f (200 + b) 3) (f (200 + b) 4) now O 0 (f (200 + b) 6) (f (200 + b) 7) 0 (f (200 + b) 9) []).2) co_X5_keep in_X5 ml_X5_51 im_X5_keep se_X5_keep rfl rfl ar_X5_keep ⟨by decide, by decide, by decide, by decide⟩ rfl (Nat.le_of_ble_eq_true rfl) dX5_tryEarly_47 (a_dF ?_) a_nF
          intro vg5 g5 hvg5
          obtain ⟨rfl, hTg5, hkg5, hfg5⟩ := hvg5
          have hOg5 : ts_I g5 15 O := ts_same hOg2 (hfg5 _ (by decide) (by decide) (by decide)) (hfg5 _ (by decide) (by decide) (by decide))
          have hfrg5 : ∀ o2, o2 ≠ 10 → o2 ≠ 11 → o2 ≠ 12 → o2 ≠ 15 → o2 ≠ 16 → o2 ≠ 17 → o2 ≠ 25 → o2 ≠ 26 → g5 o2 = f o2 := fun o2 h1 h2 h3 h4 h5 h6 h7 h8 => (hfg5 o2 h5 h6 h8).trans (hfrg2 o2 h1 h2 h3 h4 h5 h6 h7 h8)
          refine a_goto (tgt := 65) C dX5_tryEarly_50 rfl ?_
          refine a_aload_n C dX5_tryEarly_65 rfl ?_
          refine a_get (ci := 6) (i := 2) (v := .ref (ad 15)) C iw_X5 rfl (by decide) rfl fl_X5_12 rfl rfl dX5_tryEarly_66 ?_
          refine a_callVN (o := 15) (As := []) C (c_turnToNext hl g5 w rfl rfl hOg5 hpO.2.1) co_X7_turnToNext in_X7 mn_X5_55 im_X7_turnToNext se_X7_turnToNext rfl rfl ar_X7_turnToNext ⟨by decide, by decide, by decide, by decide⟩ rfl (Nat.le_of_ble_eq_true rfl) dX5_tryEarly_69 (a_dF ?_) a_nF
          intro vg6 g6 hvg6
          obtain ⟨z, hz, hzb, hz0, hz1⟩ := tn_out hvg6
          subst hz
          have hftg6 : ∀ o2, o2 ≠ 25 → g6 o2 = g5 o2 := fun o2 h => (Decidable.em (z = 0)).elim (fun q => by rw [(hz0 q).1]) (fun q => by obtain ⟨_, _, _, q2⟩ := hz1 q; exact q2 o2 h)
          have hTg6 : ts_I g6 16 O := ts_same hTg5 (hftg6 _ (by decide)) (hftg6 _ (by decide))
          have hkg6 : g6 17 4 = (wk_f v O (f (200 + b) 1) (f (200 + b) 8) bd (f (200 + b) 3) (f (200 + b) 4) now O 0 (f (200 + b) 6) (f (200 + b) 7) 0 (f (200 + b) 9) []).2 := (congrFun (hftg6 17 (by decide)) 4).trans hkg5
          have hfrg6 : ∀ o2, o2 ≠ 10 → o2 ≠ 11 → o2 ≠ 12 → o2 ≠ 15 → o2 ≠ 16 → o2 ≠ 17 → o2 ≠ 25 → o2 ≠ 26 → g6 o2 = f o2 := fun o2 h1 h2 h3 h4 h5 h6 h7 h8 => (hftg6 o2 h7).trans (hfrg5 o2 h1 h2 h3 h4 h5 h6 h7 h8)
          refine a_if_ne (tgt := 78) C dX5_tryEarly_72 rfl (by unfold ii_B; omega) (fun h72 => ?_) (fun h72 => ?_)
          · skip
            obtain ⟨O2, ho2, hn2, -⟩ := hz1 h72
            refine a_iinc (L' := [(0, .ref (ad 17)), (1, .ref (ad (200 + b))), (2, ii_v now), (3, ii_v (((k : Nat) : Int) + 1)), (4, ii_v rv)]) C dX5_tryEarly_78 rfl (by decide) rfl ?_
            refine a_goto (tgt := 7) C dX5_tryEarly_81 rfl ?_
            refine a_pick [0, 1, 2, 3] (L2 := [(0, .ref (ad 17)), (1, .ref (ad (200 + b))), (2, ii_v now), (3, ii_v (((k : Nat) : Int) + 1))]) rfl ?_
            exact ih7 (k + 1) O2 O ((wk_f v O (f (200 + b) 1) (f (200 + b) 8) bd (f (200 + b) 3) (f (200 + b) 4) now O 0 (f (200 + b) 6) (f (200 + b) 7) 0 (f (200 + b) 9) []).2) g6 (by omega) (by omega) ho2 (pm_trans hpO hn2.1) hTg6 hpO hkg6 (by omega) hfrg6 (oe_go (by omega) hE (Or.inl ⟨hrv.trans h36, rfl, rfl, rfl⟩) hn2)
          · skip
            have hla := (hz0 h72).2
            refine a_goto (tgt := 84) C dX5_tryEarly_75 rfl ?_
            refine a_vret C ?_ (by decide) (by decide) dX5_tryEarly_84
            rw [hPost]
            exact ab_F_of ⟨rfl, ⟨O1, O, hp1, hTg6, hpO, oe_end (by omega) hE (Or.inl ⟨hrv.trans h36, rfl, rfl, rfl⟩) hla⟩, hfrg6⟩
  exact loop7 (_ + 1) 0 O1 S (pl_len v (f (200 + b) 3) (f (200 + b) 4) S (f (200 + b) 6) (f (200 + b) 7) + 1) g1 (Nat.lt_succ_self _) (Nat.zero_le _) hog1 hp1.1 hsg1 (pm_refl hnd) hkg1 (by omega) (fun o2 h1 h2 h3 h4 h5 h6 h7 h8 => hfg1 o2 h4 h5 h6 h7 h8) (fun F h => h)
