/-! The model: calls that look, with more work. -/
/-- but for what is thrown and for its scratch, the model is as before -/
def ml_F (f g : Nat → Nat → Int) : Prop := (∀ o, o ≠ 40 → (o < 75 ∨ 76 < o) → (o < 83 ∨ 84 < o) → g o = f o) ∧ ∀ i, i < 37 → i ≠ 0 → g 40 i = f 40 i
set_option maxRecDepth 20000 in
set_option maxHeartbeats 2000000 in
theorem m_bestLength {l : Launch} {E : ab_E} {base : Nat} (hl : l.stackTraces = false) {ad : Nat → Nat} (f : Nat → Nat → Int) (w : Nat × Nat × Int64 × UInt64) (b : Nat) (hb : (b : Int) < f 40 29) (hm : 0 ≤ f 40 29 ∧ f 40 29 ≤ 4) {v : Nat → Nat → Int} (hv : pj_C f v) (hB : pk_B f b) (hnow : 0 ≤ f 40 32 ∧ f 40 32 ≤ 100000) (n : Nat) (hn : f 40 30 = (n : Int)) (hn30 : n ≤ 30) (hrid : ∀ r, r < n → (0 ≤ f 57 r ∧ f 57 r ≤ 6) ∧ st_ok (f 63 r) ∧ -1 ≤ f 60 r ∧ f 60 r ≤ 10) {S : List Nat} (hS : mt_I f b S) (hS6 : S.length ≤ 6)  : ab_M l E base yX10_bestLength cX10_bestLength 2 (some .int) 15 0 0 [.ref (ad 40), ii_v ((b : Nat) : Int)] ab_x4 ad (f, w) (ab_F ad w (fun ov g => ov = some (ii_v ((om_f v (mB f n b) (f 40 32) S n S.length [] (-1, [])).1)) ∧ g 40 0 = 0 ∧ ml_F f g)) := by
  obtain ⟨Post, hPost⟩ : ∃ P : ab_P, P = (ab_F ad w (fun ov g => ov = some (ii_v ((om_f v (mB f n b) (f 40 32) S n S.length [] (-1, [])).1)) ∧ g 40 0 = 0 ∧ ml_F f g)) := ⟨_, rfl⟩
  rw [← hPost]
  refine ab_of RX10 [(0, .ref (ad 40)), (1, ii_v ((b : Nat) : Int))] hl (by decide) rfl (Nat.le_of_ble_eq_true rfl) rfl ?_
  intro p e s m args below meth c C T0 hnm
  have hb4 : b < 4 := by omega
  refine a_aload_n C dX10_bestLength_0 rfl ?_
  refine a_iconst C dX10_bestLength_1 ?_
  refine a_put (ci := 11) (i := 0) C iw_X10 rfl (by decide) rfl tyX10 tyX10_ok nmX10 rfl rfl fl_X10_114 rfl rfl rfl rfl dX10_bestLength_2 ?_
  obtain ⟨g1, eg1⟩ : ∃ F : Nat → Nat → Int, F = ii_up f 40 0 0 := ⟨_, rfl⟩
  rw [← eg1]
  have hrg1 : ∀ o, o ≠ 40 → g1 o = f o := fun o h => by rw [eg1]; exact ii_up_row _ _ h
  have h4g1 : ∀ i, i ≠ 0 → g1 40 i = f 40 i := fun i h => by rw [eg1]; exact ii_up_k _ _ h
  have h0g1 : g1 40 0 = 0 := by rw [eg1]; exact ii_up_s _ _ _ _
  have hvg1 : pj_C g1 v := pj_same hv (fun o2 h => hrg1 o2 (by omega))
  have hBg1 : pk_B g1 b := by unfold pk_B; rw [hrg1 41 (by decide), hrg1 43 (by decide), hrg1 44 (by decide), hrg1 45 (by decide), hrg1 46 (by decide), hrg1 47 (by decide)]; exact hB
  have hSg1 : mt_I g1 b S := mt_same hS (hrg1 51 (by decide)) (hrg1 52 (by decide))
  have hridg1 : ∀ r, r < n → (0 ≤ g1 57 r ∧ g1 57 r ≤ 6) ∧ st_ok (g1 63 r) ∧ -1 ≤ g1 60 r ∧ g1 60 r ≤ 10 := fun r hr => by rw [hrg1 57 (by decide), hrg1 63 (by decide), hrg1 60 (by decide)]; exact hrid r hr
  have habg1 : ab_n g1 b n = ab_n f b n := ab_same (hrg1 57 (by decide)) (hrg1 63 (by decide)) (hrg1 60 (by decide)) b n
  have hmBg1 : mB g1 n b = mB f n b := mB_same (hrg1 41 (by decide)) (hrg1 43 (by decide)) (hrg1 44 (by decide)) (hrg1 45 (by decide)) (hrg1 46 (by decide)) (hrg1 47 (by decide)) habg1
  refine a_aload_n C dX10_bestLength_5 rfl ?_
  refine a_iload_n C dX10_bestLength_6 rfl ?_
  refine a_callV (o := 40) (As := [ii_v ((b : Nat) : Int)]) C (m_isBus hl g1 w ((b : Nat) : Int) (by omega) (by rw [show g1 40 29 = f 40 29 from by rw [eg1]; exact ii_up_k _ _ (by decide)]; omega)) co_X10_isBus in_X10 ml_X10_235 im_X10_isBus se_X10_isBus rfl rfl ar_X10_isBus ⟨by decide, by decide, by decide, by decide⟩ rfl (Nat.le_of_ble_eq_true rfl) dX10_bestLength_7 (a_dR ?_) a_nR
  rw [show g1 40 29 = f 40 29 from by rw [eg1]; exact ii_up_k _ _ (by decide)]
  refine a_bif_ne (tgt := 19) C dX10_bestLength_10 rfl (fun h10 => ?_) (fun h10 => ?_)
  · skip
    refine a_aload_n C dX10_bestLength_19 rfl ?_
    refine a_iload_n C dX10_bestLength_20 rfl ?_
    refine a_callV (o := 40) (As := [ii_v ((b : Nat) : Int)]) C (m_findsBest hl g1 w b hb4 hvg1 hBg1 (by rw [h4g1 32 (by decide)]; exact hnow) n (by rw [h4g1 30 (by decide)]; exact hn) hn30 hridg1 hSg1 hS6) co_X10_findsBest in_X10 ml_X10_257 im_X10_findsBest se_X10_findsBest rfl rfl ar_X10_findsBest ⟨by decide, by decide, by decide, by decide⟩ rfl (Nat.le_of_ble_eq_true rfl) dX10_bestLength_21 (a_dF ?_) a_nF
    intro vg2 g2 hvg2
    obtain ⟨rfl, hsg2, hfg2, h4g2, homg2⟩ := hvg2
    rw [hmBg1, h4g1 32 (by decide)] at hsg2
    refine a_aload_n C dX10_bestLength_24 rfl ?_
    refine a_get (ci := 11) (i := 45) (v := ii_v (g2 40 45)) C iw_X10 rfl (by decide) rfl fl_X10_244 rfl rfl dX10_bestLength_25 ?_
    refine a_top (w := ii_v ((om_f v (mB f n b) (f 40 32) S n S.length [] (-1, [])).1)) (congrArg (fun q => ii_v q) hsg2.1) ?_
    refine a_iret C ?_ (by decide) (by decide) dX10_bestLength_28
    rw [hPost]
    exact ab_F_of ⟨rfl, (h4g2 0 (by decide) (by decide) (by decide)).trans h0g1, fun o h1 h2 h3 => (hfg2 o h1 h2 h3).trans (hrg1 o h1), fun i h1 h2 => (h4g2 i (by omega) (by omega) (by omega)).trans (h4g1 i h2)⟩
  · skip
    omega
set_option maxRecDepth 20000 in
set_option maxHeartbeats 2000000 in
theorem m_bestLengthByTrying {l : Launch} {E : ab_E} {base : Nat} (hl : l.stackTraces = false) {ad : Nat → Nat} (f : Nat → Nat → Int) (w : Nat × Nat × Int64 × UInt64) (b : Nat) (hb : (b : Int) < f 40 29) (hm : 0 ≤ f 40 29 ∧ f 40 29 ≤ 4) {v : Nat → Nat → Int} (hv : pj_C f v) (hB : pk_B f b) (hnow : 0 ≤ f 40 32 ∧ f 40 32 ≤ 100000) (n : Nat) (hn : f 40 30 = (n : Int)) (hn30 : n ≤ 30) (hrid : ∀ r, r < n → (0 ≤ f 57 r ∧ f 57 r ≤ 6) ∧ st_ok (f 63 r) ∧ -1 ≤ f 60 r ∧ f 60 r ≤ 10) {S : List Nat} (hS : mt_I f b S) (hS6 : S.length ≤ 6)  : ab_M l E base yX10_bestLengthByTrying cX10_bestLengthByTrying 2 (some .int) 16 0 0 [.ref (ad 40), ii_v ((b : Nat) : Int)] ab_x4 ad (f, w) (ab_F ad w (fun ov g => ov = some (ii_v ((om_f v (mB f n b) (f 40 32) S n S.length [] (-1, [])).1)) ∧ g 40 0 = 0 ∧ ml_F f g)) := by
  obtain ⟨Post, hPost⟩ : ∃ P : ab_P, P = (ab_F ad w (fun ov g => ov = some (ii_v ((om_f v (mB f n b) (f 40 32) S n S.length [] (-1, [])).1)) ∧ g 40 0 = 0 ∧ ml_F f g)) := ⟨_, rfl⟩
  rw [← hPost]
  refine ab_of RX10 [(0, .ref (ad 40)), (1, ii_v ((b : Nat) : Int))] hl (by decide) rfl (Nat.le_of_ble_eq_true rfl) rfl ?_
  intro p e s m args below meth c C T0 hnm
  refine a_aload_n C dX10_bestLengthByTrying_0 rfl ?_
  refine a_iload_n C dX10_bestLengthByTrying_1 rfl ?_
  refine a_callV (o := 40) (As := [ii_v ((b : Nat) : Int)]) C (m_bestLength hl f w b hb hm hv hB hnow n hn hn30 hrid hS hS6) co_X10_bestLength in_X10 ml_X10_260 im_X10_bestLength se_X10_bestLength rfl rfl ar_X10_bestLength ⟨by decide, by decide, by decide, by decide⟩ rfl (Nat.le_of_ble_eq_true rfl) dX10_bestLengthByTrying_2 (a_dF ?_) a_nF
  intro vg1 g1 hvg1
  obtain ⟨rfl, hzg1⟩ := hvg1
  refine a_iret C ?_ (by decide) (by decide) dX10_bestLengthByTrying_5
  rw [hPost]
  exact ab_F_of ⟨rfl, hzg1⟩
set_option maxRecDepth 20000 in
set_option maxHeartbeats 2000000 in
theorem n_bestLengthByTrying {l : Launch} {E : ab_E} {base : Nat} (hl : l.stackTraces = false) {ad : Nat → Nat} (f : Nat → Nat → Int) (w : Nat × Nat × Int64 × UInt64) (i : Int) (zi : -2147483648 ≤ i ∧ i < 2147483648) (h : ¬ (0 ≤ i ∧ i < f 40 29)) (hm : 0 ≤ f 40 29 ∧ f 40 29 ≤ 4)  : ab_M l E base yX10_bestLengthByTrying cX10_bestLengthByTrying 2 (some .int) 5 0 0 [.ref (ad 40), ii_v i] ab_x4 ad (f, w) (ab_R (ii_v (0)) ab_x4 ad (ii_up f 40 0 1, w)) := by
  obtain ⟨Post, hPost⟩ : ∃ P : ab_P, P = (ab_R (ii_v (0)) ab_x4 ad (ii_up f 40 0 1, w)) := ⟨_, rfl⟩
  rw [← hPost]
  refine ab_of RX10 [(0, .ref (ad 40)), (1, ii_v i)] hl (by decide) rfl (Nat.le_of_ble_eq_true rfl) rfl ?_
  intro p e s m args below meth c C T0 hnm
  refine a_aload_n C dX10_bestLengthByTrying_0 rfl ?_
  refine a_iload_n C dX10_bestLengthByTrying_1 rfl ?_
  refine a_callV (o := 40) (As := [ii_v i]) C (n_bestLength hl f w i (by omega) h hm) co_X10_bestLength in_X10 ml_X10_260 im_X10_bestLength se_X10_bestLength rfl rfl ar_X10_bestLength ⟨by decide, by decide, by decide, by decide⟩ rfl (Nat.le_of_ble_eq_true rfl) dX10_bestLengthByTrying_2 (a_dR ?_) a_nR
  obtain ⟨g1, eg1⟩ : ∃ F : Nat → Nat → Int, F = ii_up f 40 0 1 := ⟨_, rfl⟩
  rw [← eg1]
  refine a_iret C ?_ (by decide) (by decide) dX10_bestLengthByTrying_5
  rw [hPost]
  rw [eg1]
  exact ⟨rfl, rfl, rfl, rfl⟩
set_option maxRecDepth 20000 in
set_option maxHeartbeats 2000000 in
theorem m_emptyByJournal {l : Launch} {E : ab_E} {base : Nat} (hl : l.stackTraces = false) {ad : Nat → Nat} (f : Nat → Nat → Int) (w : Nat × Nat × Int64 × UInt64) (b : Nat) (hb : (b : Int) < f 40 29) (hm : 0 ≤ f 40 29 ∧ f 40 29 ≤ 4)  : ab_M l E base yX10_emptyByJournal cX10_emptyByJournal 2 (some .int) 4 0 0 [.ref (ad 40), ii_v ((b : Nat) : Int)] ab_x4 ad (f, w) (ab_R (ii_v (f 49 b)) ab_x4 ad (ii_up f 40 0 0, w)) := by
  obtain ⟨Post, hPost⟩ : ∃ P : ab_P, P = (ab_R (ii_v (f 49 b)) ab_x4 ad (ii_up f 40 0 0, w)) := ⟨_, rfl⟩
  rw [← hPost]
  refine ab_of RX10 [(0, .ref (ad 40)), (1, ii_v ((b : Nat) : Int))] hl (by decide) rfl (Nat.le_of_ble_eq_true rfl) rfl ?_
  intro p e s m args below meth c C T0 hnm
  refine a_aload_n C dX10_emptyByJournal_0 rfl ?_
  refine a_iload_n C dX10_emptyByJournal_1 rfl ?_
  refine a_callV (o := 40) (As := [ii_v ((b : Nat) : Int)]) C (m_empty hl f w b hb hm) co_X10_empty in_X10 ml_X10_272 im_X10_empty se_X10_empty rfl rfl ar_X10_empty ⟨by decide, by decide, by decide, by decide⟩ rfl (Nat.le_of_ble_eq_true rfl) dX10_emptyByJournal_2 (a_dR ?_) a_nR
  obtain ⟨g1, eg1⟩ : ∃ F : Nat → Nat → Int, F = ii_up f 40 0 0 := ⟨_, rfl⟩
  rw [← eg1]
  refine a_iret C ?_ (by decide) (by decide) dX10_emptyByJournal_5
  rw [hPost]
  rw [eg1]
  exact ⟨rfl, rfl, rfl, rfl⟩
set_option maxRecDepth 20000 in
set_option maxHeartbeats 2000000 in
theorem n_emptyByJournal {l : Launch} {E : ab_E} {base : Nat} (hl : l.stackTraces = false) {ad : Nat → Nat} (f : Nat → Nat → Int) (w : Nat × Nat × Int64 × UInt64) (i : Int) (zi : -2147483648 ≤ i ∧ i < 2147483648) (h : ¬ (0 ≤ i ∧ i < f 40 29)) (hm : 0 ≤ f 40 29 ∧ f 40 29 ≤ 4)  : ab_M l E base yX10_emptyByJournal cX10_emptyByJournal 2 (some .int) 4 0 0 [.ref (ad 40), ii_v i] ab_x4 ad (f, w) (ab_R (ii_v (0)) ab_x4 ad (ii_up f 40 0 1, w)) := by
  obtain ⟨Post, hPost⟩ : ∃ P : ab_P, P = (ab_R (ii_v (0)) ab_x4 ad (ii_up f 40 0 1, w)) := ⟨_, rfl⟩
  rw [← hPost]
  refine ab_of RX10 [(0, .ref (ad 40)), (1, ii_v i)] hl (by decide) rfl (Nat.le_of_ble_eq_true rfl) rfl ?_
  intro p e s m args below meth c C T0 hnm
  refine a_aload_n C dX10_emptyByJournal_0 rfl ?_
  refine a_iload_n C dX10_emptyByJournal_1 rfl ?_
  refine a_callV (o := 40) (As := [ii_v i]) C (n_empty hl f w i (by omega) h hm) co_X10_empty in_X10 ml_X10_272 im_X10_empty se_X10_empty rfl rfl ar_X10_empty ⟨by decide, by decide, by decide, by decide⟩ rfl (Nat.le_of_ble_eq_true rfl) dX10_emptyByJournal_2 (a_dR ?_) a_nR
  obtain ⟨g1, eg1⟩ : ∃ F : Nat → Nat → Int, F = ii_up f 40 0 1 := ⟨_, rfl⟩
  rw [← eg1]
  refine a_iret C ?_ (by decide) (by decide) dX10_emptyByJournal_5
  rw [hPost]
  rw [eg1]
  exact ⟨rfl, rfl, rfl, rfl⟩
set_option maxRecDepth 20000 in
set_option maxHeartbeats 2000000 in
theorem m_length {l : Launch} {E : ab_E} {base : Nat} (hl : l.stackTraces = false) {ad : Nat → Nat} (f : Nat → Nat → Int) (w : Nat × Nat × Int64 × UInt64) (b : Nat) (hb : (b : Int) < f 40 29) (hm : 0 ≤ f 40 29 ∧ f 40 29 ≤ 4) {v : Nat → Nat → Int} (hv : pj_C f v) (hB : pk_B f b) {S : List Nat} (hS : mt_I f b S) (hS6 : S.length ≤ 6) (hq : ∀ j, j < S.length → S.getD j 0 / 2 ≤ 30) (hnow : 0 ≤ f 40 32 ∧ f 40 32 ≤ 100000)  : ab_M l E base yX10_length cX10_length 2 (some .int) 5 0 0 [.ref (ad 40), ii_v ((b : Nat) : Int)] ab_x4 ad (f, w) (ab_F ad w (fun ov g => ov = some (ii_v (pl_len v (f 46 b) (f 47 b) S (f 44 b) (f 45 b))) ∧ g 40 0 = 0 ∧ ml_F f g)) := by
  obtain ⟨Post, hPost⟩ : ∃ P : ab_P, P = (ab_F ad w (fun ov g => ov = some (ii_v (pl_len v (f 46 b) (f 47 b) S (f 44 b) (f 45 b))) ∧ g 40 0 = 0 ∧ ml_F f g)) := ⟨_, rfl⟩
  rw [← hPost]
  refine ab_of RX10 [(0, .ref (ad 40)), (1, ii_v ((b : Nat) : Int))] hl (by decide) rfl (Nat.le_of_ble_eq_true rfl) rfl ?_
  intro p e s m args below meth c C T0 hnm
  have hb4 : b < 4 := by omega
  refine a_aload_n C dX10_length_0 rfl ?_
  refine a_iconst C dX10_length_1 ?_
  refine a_put (ci := 11) (i := 0) C iw_X10 rfl (by decide) rfl tyX10 tyX10_ok nmX10 rfl rfl fl_X10_114 rfl rfl rfl rfl dX10_length_2 ?_
  obtain ⟨g1, eg1⟩ : ∃ F : Nat → Nat → Int, F = ii_up f 40 0 0 := ⟨_, rfl⟩
  rw [← eg1]
  have hrg1 : ∀ o, o ≠ 40 → g1 o = f o := fun o h => by rw [eg1]; exact ii_up_row _ _ h
  have h4g1 : ∀ i, i ≠ 0 → g1 40 i = f 40 i := fun i h => by rw [eg1]; exact ii_up_k _ _ h
  have h0g1 : g1 40 0 = 0 := by rw [eg1]; exact ii_up_s _ _ _ _
  have hvg1 : pj_C g1 v := pj_same hv (fun o2 h => hrg1 o2 (by omega))
  have hBg1 : pk_B g1 b := by unfold pk_B; rw [hrg1 41 (by decide), hrg1 43 (by decide), hrg1 44 (by decide), hrg1 45 (by decide), hrg1 46 (by decide), hrg1 47 (by decide)]; exact hB
  have hSg1 : mt_I g1 b S := mt_same hS (hrg1 51 (by decide)) (hrg1 52 (by decide))
  refine a_aload_n C dX10_length_5 rfl ?_
  refine a_iload_n C dX10_length_6 rfl ?_
  refine a_callV (o := 40) (As := [ii_v ((b : Nat) : Int)]) C (m_isBus hl g1 w ((b : Nat) : Int) (by omega) (by rw [show g1 40 29 = f 40 29 from by rw [eg1]; exact ii_up_k _ _ (by decide)]; omega)) co_X10_isBus in_X10 ml_X10_235 im_X10_isBus se_X10_isBus rfl rfl ar_X10_isBus ⟨by decide, by decide, by decide, by decide⟩ rfl (Nat.le_of_ble_eq_true rfl) dX10_length_7 (a_dR ?_) a_nR
  rw [show g1 40 29 = f 40 29 from by rw [eg1]; exact ii_up_k _ _ (by decide)]
  refine a_bif_eq (tgt := 21) C dX10_length_10 rfl (fun h10 => ?_) (fun h10 => ?_)
  · skip
    omega
  · skip
    refine a_aload_n C dX10_length_13 rfl ?_
    refine a_iload_n C dX10_length_14 rfl ?_
    refine a_callV (o := 40) (As := [ii_v ((b : Nat) : Int)]) C (m_lengthOf hl g1 w b hb4 hvg1 hBg1 hSg1 hS6 hq (by rw [h4g1 32 (by decide)]; exact hnow)) co_X10_lengthOf in_X10 ml_X10_179 im_X10_lengthOf se_X10_lengthOf rfl rfl ar_X10_lengthOf ⟨by decide, by decide, by decide, by decide⟩ rfl (Nat.le_of_ble_eq_true rfl) dX10_length_15 (a_dF ?_) a_nF
    intro vg2 g2 hvg2
    obtain ⟨hr0, -, hTg2, hfg2, hig2⟩ := hvg2
    rw [hrg1 46 (by decide), hrg1 47 (by decide), hrg1 44 (by decide), hrg1 45 (by decide)] at hr0
    rw [hrg1 44 (by decide), hrg1 45 (by decide), h4g1 32 (by decide)] at hTg2
    subst hr0
    refine a_goto (tgt := 26) C dX10_length_18 rfl ?_
    refine a_iret C ?_ (by decide) (by decide) dX10_length_26
    rw [hPost]
    exact ab_F_of ⟨rfl, (hig2 0 (by decide)).trans h0g1, fun o h1 h2 h3 => (hfg2 o h1 (by omega) (by omega)).trans (hrg1 o h1), fun i h1 h2 => (hig2 i (by omega)).trans (h4g1 i h2)⟩
set_option maxRecDepth 20000 in
set_option maxHeartbeats 2000000 in
theorem m_onBoard {l : Launch} {E : ab_E} {base : Nat} (hl : l.stackTraces = false) {ad : Nat → Nat} (f : Nat → Nat → Int) (w : Nat × Nat × Int64 × UInt64) (b : Nat) (hb : (b : Int) < f 40 29) (hm : 0 ≤ f 40 29 ∧ f 40 29 ≤ 4) (n : Nat) (hn : f 40 30 = (n : Int)) (hn30 : n ≤ 30) (hrid : ∀ r, r < n → (0 ≤ f 57 r ∧ f 57 r ≤ 6) ∧ st_ok (f 63 r) ∧ -1 ≤ f 60 r ∧ f 60 r ≤ 10)  : ab_M l E base yX10_onBoard cX10_onBoard 2 (some .int) 3 0 0 [.ref (ad 40), ii_v ((b : Nat) : Int)] ab_x4 ad (f, w) (ab_R (ii_v (ab_n f b n)) ab_x4 ad (ii_up f 40 0 0, w)) := by
  obtain ⟨Post, hPost⟩ : ∃ P : ab_P, P = (ab_R (ii_v (ab_n f b n)) ab_x4 ad (ii_up f 40 0 0, w)) := ⟨_, rfl⟩
  rw [← hPost]
  refine ab_of RX10 [(0, .ref (ad 40)), (1, ii_v ((b : Nat) : Int))] hl (by decide) rfl (Nat.le_of_ble_eq_true rfl) rfl ?_
  intro p e s m args below meth c C T0 hnm
  have hb4 : b < 4 := by omega
  refine a_aload_n C dX10_onBoard_0 rfl ?_
  refine a_iconst C dX10_onBoard_1 ?_
  refine a_put (ci := 11) (i := 0) C iw_X10 rfl (by decide) rfl tyX10 tyX10_ok nmX10 rfl rfl fl_X10_114 rfl rfl rfl rfl dX10_onBoard_2 ?_
  obtain ⟨g1, eg1⟩ : ∃ F : Nat → Nat → Int, F = ii_up f 40 0 0 := ⟨_, rfl⟩
  rw [← eg1]
  have hrg1 : ∀ o, o ≠ 40 → g1 o = f o := fun o h => by rw [eg1]; exact ii_up_row _ _ h
  have h4g1 : ∀ i, i ≠ 0 → g1 40 i = f 40 i := fun i h => by rw [eg1]; exact ii_up_k _ _ h
  have h0g1 : g1 40 0 = 0 := by rw [eg1]; exact ii_up_s _ _ _ _
  have hridg1 : ∀ r, r < n → (0 ≤ g1 57 r ∧ g1 57 r ≤ 6) ∧ st_ok (g1 63 r) ∧ -1 ≤ g1 60 r ∧ g1 60 r ≤ 10 := fun r hr => by rw [hrg1 57 (by decide), hrg1 63 (by decide), hrg1 60 (by decide)]; exact hrid r hr
  have habg1 : ab_n g1 b n = ab_n f b n := ab_same (hrg1 57 (by decide)) (hrg1 63 (by decide)) (hrg1 60 (by decide)) b n
  have hmBg1 : mB g1 n b = mB f n b := mB_same (hrg1 41 (by decide)) (hrg1 43 (by decide)) (hrg1 44 (by decide)) (hrg1 45 (by decide)) (hrg1 46 (by decide)) (hrg1 47 (by decide)) habg1
  refine a_aload_n C dX10_onBoard_5 rfl ?_
  refine a_iload_n C dX10_onBoard_6 rfl ?_
  refine a_callV (o := 40) (As := [ii_v ((b : Nat) : Int)]) C (m_isBus hl g1 w ((b : Nat) : Int) (by omega) (by rw [show g1 40 29 = f 40 29 from by rw [eg1]; exact ii_up_k _ _ (by decide)]; omega)) co_X10_isBus in_X10 ml_X10_235 im_X10_isBus se_X10_isBus rfl rfl ar_X10_isBus ⟨by decide, by decide, by decide, by decide⟩ rfl (Nat.le_of_ble_eq_true rfl) dX10_onBoard_7 (a_dR ?_) a_nR
  rw [show g1 40 29 = f 40 29 from by rw [eg1]; exact ii_up_k _ _ (by decide)]
  refine a_bif_eq (tgt := 21) C dX10_onBoard_10 rfl (fun h10 => ?_) (fun h10 => ?_)
  · skip
    omega
  · skip
    refine a_aload_n C dX10_onBoard_13 rfl ?_
    refine a_iload_n C dX10_onBoard_14 rfl ?_
    refine a_callV (o := 40) (As := [ii_v ((b : Nat) : Int)]) C (m_aboard hl g1 w b hb4 n (by rw [h4g1 30 (by decide)]; exact hn) hn30 hridg1) co_X10_aboard in_X10 ml_X10_163 im_X10_aboard se_X10_aboard rfl rfl ar_X10_aboard ⟨by decide, by decide, by decide, by decide⟩ rfl (Nat.le_of_ble_eq_true rfl) dX10_onBoard_15 (a_dR ?_) a_nR
    rw [habg1]
    refine a_goto (tgt := 26) C dX10_onBoard_18 rfl ?_
    refine a_iret C ?_ (by decide) (by decide) dX10_onBoard_26
    rw [hPost]
    subst eg1
    exact ⟨rfl, rfl, rfl, by first | rfl | rw [ii_up_up]⟩
set_option maxRecDepth 20000 in
set_option maxHeartbeats 2000000 in
theorem m_isNoStop {l : Launch} {E : ab_E} {base : Nat} (hl : l.stackTraces = false) {ad : Nat → Nat} (f : Nat → Nat → Int) (w : Nat × Nat × Int64 × UInt64) (b : Nat) (hb : (b : Int) < f 40 29) (hm : 0 ≤ f 40 29 ∧ f 40 29 ≤ 4) {S : List Nat} (hS : mt_I f b S) (k : Nat) (hk : k < S.length) : ab_M l E base yX10_isNoStop cX10_isNoStop 3 (some .boolean) 3 0 0 [.ref (ad 40), ii_v ((b : Nat) : Int), ii_v ((k : Nat) : Int)] ab_x4 ad (f, w) (ab_R (ii_v (0)) ab_x4 ad (ii_up f 40 0 0, w)) := by
  obtain ⟨Post, hPost⟩ : ∃ P : ab_P, P = (ab_R (ii_v (0)) ab_x4 ad (ii_up f 40 0 0, w)) := ⟨_, rfl⟩
  rw [← hPost]
  refine ab_of RX10 [(0, .ref (ad 40)), (1, ii_v ((b : Nat) : Int)), (2, ii_v ((k : Nat) : Int))] hl (by decide) rfl (Nat.le_of_ble_eq_true rfl) rfl ?_
  intro p e s m args below meth c C T0 hnm
  have hb4 : b < 4 := by omega
  obtain ⟨hc, h8, -, -⟩ := id hS
  refine a_aload_n C dX10_isNoStop_0 rfl ?_
  refine a_iconst C dX10_isNoStop_1 ?_
  refine a_put (ci := 11) (i := 0) C iw_X10 rfl (by decide) rfl tyX10 tyX10_ok nmX10 rfl rfl fl_X10_114 rfl rfl rfl rfl dX10_isNoStop_2 ?_
  obtain ⟨g1, eg1⟩ : ∃ F : Nat → Nat → Int, F = ii_up f 40 0 0 := ⟨_, rfl⟩
  rw [← eg1]
  refine a_aload_n C dX10_isNoStop_5 rfl ?_
  refine a_iload_n C dX10_isNoStop_6 rfl ?_
  refine a_callV (o := 40) (As := [ii_v ((b : Nat) : Int)]) C (m_isBus hl g1 w ((b : Nat) : Int) (by omega) (by rw [show g1 40 29 = f 40 29 from by rw [eg1]; exact ii_up_k _ _ (by decide)]; omega)) co_X10_isBus in_X10 ml_X10_235 im_X10_isBus se_X10_isBus rfl rfl ar_X10_isBus ⟨by decide, by decide, by decide, by decide⟩ rfl (Nat.le_of_ble_eq_true rfl) dX10_isNoStop_7 (a_dR ?_) a_nR
  rw [show g1 40 29 = f 40 29 from by rw [eg1]; exact ii_up_k _ _ (by decide)]
  refine a_bif_ne (tgt := 22) C dX10_isNoStop_10 rfl (fun h10 => ?_) (fun h10 => ?_)
  · skip
    refine a_iload_n C dX10_isNoStop_22 rfl ?_
    refine a_iconst C dX10_isNoStop_23 ?_
    refine a_aload_n C dX10_isNoStop_24 rfl ?_
    refine a_get (ci := 11) (i := 11) (v := .ref (ad 51)) C iw_X10 rfl (by decide) rfl fl_X10_40 rfl rfl dX10_isNoStop_25 ?_
    refine a_iload_n C dX10_isNoStop_28 rfl ?_
    refine a_iald (o := 51) (N := 4) b C dX10_isNoStop_29 rfl (by omega) (by omega) (by decide) ?_
    refine a_top (w := ii_v (g1 51 b)) rfl ?_
    refine a_top (w := ii_v (f 51 b)) (congrArg (fun q => ii_v q) (show g1 51 b = (f 51 b) by rw [eg1, ii_up_o _ _ _ (by omega)])) ?_
    refine a_top (w := ii_v ((S.length : Nat) : Int)) (congrArg (fun q => ii_v q) hS.1) ?_
    refine a_iconst C dX10_isNoStop_30 ?_
    refine a_isub C dX10_isNoStop_31 ?_
    refine a_callS (As := [ii_v ((k : Nat) : Int), ii_v 0, ii_v (((S.length : Nat) : Int) - 1)]) C (m_isBetween hl g1 w ((k : Nat) : Int) 0 (((S.length : Nat) : Int) - 1) (by omega) (by omega) (by omega)) co_X10_isBetween in_X10 ml_X10_120 sc_X10_isBetween ar_X10_isBetween ⟨by decide, by decide, by decide, by decide⟩ rfl (Nat.le_of_ble_eq_true rfl) dX10_isNoStop_32 (a_dR ?_) a_nR
    refine a_bif_ne (tgt := 44) C dX10_isNoStop_35 rfl (fun h35 => ?_) (fun h35 => ?_)
    · skip
      refine a_aload_n C dX10_isNoStop_44 rfl ?_
      refine a_get (ci := 11) (i := 0) (v := ii_v (g1 40 0)) C iw_X10 rfl (by decide) rfl fl_X10_114 rfl rfl dX10_isNoStop_45 ?_
      refine a_top (w := ii_v 0) (congrArg (fun q => ii_v q) (show g1 40 0 = 0 by rw [eg1, ii_up_s])) ?_
      refine a_if_le (tgt := 55) C dX10_isNoStop_48 rfl (by unfold ii_B; omega) (fun h48 => ?_) (fun h48 => ?_)
      · skip
        refine a_iconst C dX10_isNoStop_55 ?_
        refine a_zret C (by decide) ?_ (by decide) (by decide) dX10_isNoStop_56
        rw [hPost]
        subst eg1
        exact ⟨rfl, rfl, rfl, by first | rfl | rw [ii_up_up]⟩
      · skip
        omega
    · skip
      exact absurd ⟨by omega, by omega⟩ h35
  · skip
    omega
set_option maxRecDepth 20000 in
set_option maxHeartbeats 2000000 in
theorem n2_isNoStop {l : Launch} {E : ab_E} {base : Nat} (hl : l.stackTraces = false) {ad : Nat → Nat} (f : Nat → Nat → Int) (w : Nat × Nat × Int64 × UInt64) (b : Nat) (hb : (b : Int) < f 40 29) (hm : 0 ≤ f 40 29 ∧ f 40 29 ≤ 4) {S : List Nat} (hS : mt_I f b S) (i : Int) (zi : -2147483648 ≤ i ∧ i < 2147483648) (h : i < 0 ∨ (S.length : Int) ≤ i) : ab_M l E base yX10_isNoStop cX10_isNoStop 3 (some .boolean) 3 0 0 [.ref (ad 40), ii_v ((b : Nat) : Int), ii_v i] ab_x4 ad (f, w) (ab_R (ii_v (1)) ab_x4 ad (ii_up f 40 0 2, w)) := by
  obtain ⟨Post, hPost⟩ : ∃ P : ab_P, P = (ab_R (ii_v (1)) ab_x4 ad (ii_up f 40 0 2, w)) := ⟨_, rfl⟩
  rw [← hPost]
  refine ab_of RX10 [(0, .ref (ad 40)), (1, ii_v ((b : Nat) : Int)), (2, ii_v i)] hl (by decide) rfl (Nat.le_of_ble_eq_true rfl) rfl ?_
  intro p e s m args below meth c C T0 hnm
  have hb4 : b < 4 := by omega
  obtain ⟨hc, h8, -, -⟩ := id hS
  refine a_aload_n C dX10_isNoStop_0 rfl ?_
  refine a_iconst C dX10_isNoStop_1 ?_
  refine a_put (ci := 11) (i := 0) C iw_X10 rfl (by decide) rfl tyX10 tyX10_ok nmX10 rfl rfl fl_X10_114 rfl rfl rfl rfl dX10_isNoStop_2 ?_
  obtain ⟨g1, eg1⟩ : ∃ F : Nat → Nat → Int, F = ii_up f 40 0 0 := ⟨_, rfl⟩
  rw [← eg1]
  refine a_aload_n C dX10_isNoStop_5 rfl ?_
  refine a_iload_n C dX10_isNoStop_6 rfl ?_
  refine a_callV (o := 40) (As := [ii_v ((b : Nat) : Int)]) C (m_isBus hl g1 w ((b : Nat) : Int) (by omega) (by rw [show g1 40 29 = f 40 29 from by rw [eg1]; exact ii_up_k _ _ (by decide)]; omega)) co_X10_isBus in_X10 ml_X10_235 im_X10_isBus se_X10_isBus rfl rfl ar_X10_isBus ⟨by decide, by decide, by decide, by decide⟩ rfl (Nat.le_of_ble_eq_true rfl) dX10_isNoStop_7 (a_dR ?_) a_nR
  rw [show g1 40 29 = f 40 29 from by rw [eg1]; exact ii_up_k _ _ (by decide)]
  refine a_bif_ne (tgt := 22) C dX10_isNoStop_10 rfl (fun h10 => ?_) (fun h10 => ?_)
  · skip
    refine a_iload_n C dX10_isNoStop_22 rfl ?_
    refine a_iconst C dX10_isNoStop_23 ?_
    refine a_aload_n C dX10_isNoStop_24 rfl ?_
    refine a_get (ci := 11) (i := 11) (v := .ref (ad 51)) C iw_X10 rfl (by decide) rfl fl_X10_40 rfl rfl dX10_isNoStop_25 ?_
    refine a_iload_n C dX10_isNoStop_28 rfl ?_
    refine a_iald (o := 51) (N := 4) b C dX10_isNoStop_29 rfl (by omega) (by omega) (by decide) ?_
    refine a_top (w := ii_v (g1 51 b)) rfl ?_
    refine a_top (w := ii_v (f 51 b)) (congrArg (fun q => ii_v q) (show g1 51 b = (f 51 b) by rw [eg1, ii_up_o _ _ _ (by omega)])) ?_
    refine a_top (w := ii_v ((S.length : Nat) : Int)) (congrArg (fun q => ii_v q) hS.1) ?_
    refine a_iconst C dX10_isNoStop_30 ?_
    refine a_isub C dX10_isNoStop_31 ?_
    refine a_callS (As := [ii_v i, ii_v 0, ii_v (((S.length : Nat) : Int) - 1)]) C (m_isBetween hl g1 w i 0 (((S.length : Nat) : Int) - 1) (by omega) (by omega) (by omega)) co_X10_isBetween in_X10 ml_X10_120 sc_X10_isBetween ar_X10_isBetween ⟨by decide, by decide, by decide, by decide⟩ rfl (Nat.le_of_ble_eq_true rfl) dX10_isNoStop_32 (a_dR ?_) a_nR
    refine a_bif_ne (tgt := 44) C dX10_isNoStop_35 rfl (fun h35 => ?_) (fun h35 => ?_)
    · skip
      omega
    · skip
      refine a_aload_n C dX10_isNoStop_38 rfl ?_
      refine a_iconst C dX10_isNoStop_39 ?_
      refine a_callV (o := 40) (As := [ii_v 2]) C (m_fails hl g1 w 2) co_X10_fails in_X10 ml_X10_127 im_X10_fails se_X10_fails rfl rfl ar_X10_fails ⟨by decide, by decide, by decide, by decide⟩ rfl (Nat.le_of_ble_eq_true rfl) dX10_isNoStop_40 (a_dR ?_) a_nR
      obtain ⟨g2, eg2⟩ : ∃ F : Nat → Nat → Int, F = ii_up g1 40 0 2 := ⟨_, rfl⟩
      rw [← eg2]
      refine a_pop C dX10_isNoStop_43 rfl ?_
      refine a_aload_n C dX10_isNoStop_44 rfl ?_
      refine a_get (ci := 11) (i := 0) (v := ii_v (g2 40 0)) C iw_X10 rfl (by decide) rfl fl_X10_114 rfl rfl dX10_isNoStop_45 ?_
      refine a_top (w := ii_v 2) (congrArg (fun q => ii_v q) (show g2 40 0 = 2 by rw [eg2, ii_up_s])) ?_
      refine a_if_le (tgt := 55) C dX10_isNoStop_48 rfl (by unfold ii_B; omega) (fun h48 => ?_) (fun h48 => ?_)
      · skip
        omega
      · skip
        refine a_iconst C dX10_isNoStop_51 ?_
        refine a_goto (tgt := 56) C dX10_isNoStop_52 rfl ?_
        refine a_zret C (by decide) ?_ (by decide) (by decide) dX10_isNoStop_56
        rw [hPost]
        subst eg2 eg1
        exact ⟨rfl, rfl, rfl, by first | rfl | rw [ii_up_up]⟩
  · skip
    omega
set_option maxRecDepth 20000 in
set_option maxHeartbeats 2000000 in
theorem n_isNoStop {l : Launch} {E : ab_E} {base : Nat} (hl : l.stackTraces = false) {ad : Nat → Nat} (f : Nat → Nat → Int) (w : Nat × Nat × Int64 × UInt64) (i : Int) (zi : -2147483648 ≤ i ∧ i < 2147483648) (h : ¬ (0 ≤ i ∧ i < f 40 29)) (hm : 0 ≤ f 40 29 ∧ f 40 29 ≤ 4) (j : Int) : ab_M l E base yX10_isNoStop cX10_isNoStop 3 (some .boolean) 3 0 0 [.ref (ad 40), ii_v i, ii_v j] ab_x4 ad (f, w) (ab_R (ii_v (1)) ab_x4 ad (ii_up f 40 0 1, w)) := by
  obtain ⟨Post, hPost⟩ : ∃ P : ab_P, P = (ab_R (ii_v (1)) ab_x4 ad (ii_up f 40 0 1, w)) := ⟨_, rfl⟩
  rw [← hPost]
  refine ab_of RX10 [(0, .ref (ad 40)), (1, ii_v i), (2, ii_v j)] hl (by decide) rfl (Nat.le_of_ble_eq_true rfl) rfl ?_
  intro p e s m args below meth c C T0 hnm
  refine a_aload_n C dX10_isNoStop_0 rfl ?_
  refine a_iconst C dX10_isNoStop_1 ?_
  refine a_put (ci := 11) (i := 0) C iw_X10 rfl (by decide) rfl tyX10 tyX10_ok nmX10 rfl rfl fl_X10_114 rfl rfl rfl rfl dX10_isNoStop_2 ?_
  obtain ⟨g1, eg1⟩ : ∃ F : Nat → Nat → Int, F = ii_up f 40 0 0 := ⟨_, rfl⟩
  rw [← eg1]
  refine a_aload_n C dX10_isNoStop_5 rfl ?_
  refine a_iload_n C dX10_isNoStop_6 rfl ?_
  refine a_callV (o := 40) (As := [ii_v i]) C (m_isBus hl g1 w i (by omega) (by rw [show g1 40 29 = f 40 29 from by rw [eg1]; exact ii_up_k _ _ (by decide)]; omega)) co_X10_isBus in_X10 ml_X10_235 im_X10_isBus se_X10_isBus rfl rfl ar_X10_isBus ⟨by decide, by decide, by decide, by decide⟩ rfl (Nat.le_of_ble_eq_true rfl) dX10_isNoStop_7 (a_dR ?_) a_nR
  rw [show g1 40 29 = f 40 29 from by rw [eg1]; exact ii_up_k _ _ (by decide)]
  refine a_bif_ne (tgt := 22) C dX10_isNoStop_10 rfl (fun h10 => ?_) (fun h10 => ?_)
  · skip
    omega
  · skip
    refine a_aload_n C dX10_isNoStop_13 rfl ?_
    refine a_iconst C dX10_isNoStop_14 ?_
    refine a_callV (o := 40) (As := [ii_v 1]) C (m_fails hl g1 w 1) co_X10_fails in_X10 ml_X10_127 im_X10_fails se_X10_fails rfl rfl ar_X10_fails ⟨by decide, by decide, by decide, by decide⟩ rfl (Nat.le_of_ble_eq_true rfl) dX10_isNoStop_15 (a_dR ?_) a_nR
    obtain ⟨g2, eg2⟩ : ∃ F : Nat → Nat → Int, F = ii_up g1 40 0 1 := ⟨_, rfl⟩
    rw [← eg2]
    refine a_pop C dX10_isNoStop_18 rfl ?_
    refine a_goto (tgt := 44) C dX10_isNoStop_19 rfl ?_
    refine a_aload_n C dX10_isNoStop_44 rfl ?_
    refine a_get (ci := 11) (i := 0) (v := ii_v (g2 40 0)) C iw_X10 rfl (by decide) rfl fl_X10_114 rfl rfl dX10_isNoStop_45 ?_
    refine a_top (w := ii_v 1) (congrArg (fun q => ii_v q) (show g2 40 0 = 1 by rw [eg2, ii_up_s])) ?_
    refine a_if_le (tgt := 55) C dX10_isNoStop_48 rfl (by unfold ii_B; omega) (fun h48 => ?_) (fun h48 => ?_)
    · skip
      omega
    · skip
      refine a_iconst C dX10_isNoStop_51 ?_
      refine a_goto (tgt := 56) C dX10_isNoStop_52 rfl ?_
      refine a_zret C (by decide) ?_ (by decide) (by decide) dX10_isNoStop_56
      rw [hPost]
      subst eg2 eg1
      exact ⟨rfl, rfl, rfl, by first | rfl | rw [ii_up_up]⟩
set_option maxRecDepth 20000 in
set_option maxHeartbeats 2000000 in
theorem n2_stopRequest {l : Launch} {E : ab_E} {base : Nat} (hl : l.stackTraces = false) {ad : Nat → Nat} (f : Nat → Nat → Int) (w : Nat × Nat × Int64 × UInt64) (b : Nat) (hb : (b : Int) < f 40 29) (hm : 0 ≤ f 40 29 ∧ f 40 29 ≤ 4) {S : List Nat} (hS : mt_I f b S) (i : Int) (zi : -2147483648 ≤ i ∧ i < 2147483648) (h : i < 0 ∨ (S.length : Int) ≤ i) : ab_M l E base yX10_stopRequest cX10_stopRequest 3 (some .int) 5 0 0 [.ref (ad 40), ii_v ((b : Nat) : Int), ii_v i] ab_x4 ad (f, w) (ab_R (ii_v (0)) ab_x4 ad (ii_up f 40 0 2, w)) := by
  obtain ⟨Post, hPost⟩ : ∃ P : ab_P, P = (ab_R (ii_v (0)) ab_x4 ad (ii_up f 40 0 2, w)) := ⟨_, rfl⟩
  rw [← hPost]
  refine ab_of RX10 [(0, .ref (ad 40)), (1, ii_v ((b : Nat) : Int)), (2, ii_v i)] hl (by decide) rfl (Nat.le_of_ble_eq_true rfl) rfl ?_
  intro p e s m args below meth c C T0 hnm
  refine a_aload_n C dX10_stopRequest_0 rfl ?_
  refine a_iload_n C dX10_stopRequest_1 rfl ?_
  refine a_iload_n C dX10_stopRequest_2 rfl ?_
  refine a_callV (o := 40) (As := [ii_v ((b : Nat) : Int), ii_v i]) C (n2_isNoStop hl f w b hb hm hS i (by omega) h) co_X10_isNoStop in_X10 ml_X10_238 im_X10_isNoStop se_X10_isNoStop rfl rfl ar_X10_isNoStop ⟨by decide, by decide, by decide, by decide⟩ rfl (Nat.le_of_ble_eq_true rfl) dX10_stopRequest_3 (a_dR ?_) a_nR
  obtain ⟨g1, eg1⟩ : ∃ F : Nat → Nat → Int, F = ii_up f 40 0 2 := ⟨_, rfl⟩
  rw [← eg1]
  refine a_if_eq (tgt := 13) C dX10_stopRequest_6 rfl (by unfold ii_B; omega) (fun h6 => ?_) (fun h6 => ?_)
  · skip
    omega
  · skip
    refine a_iconst C dX10_stopRequest_9 ?_
    refine a_goto (tgt := 26) C dX10_stopRequest_10 rfl ?_
    refine a_iret C ?_ (by decide) (by decide) dX10_stopRequest_26
    rw [hPost]
    subst eg1
    exact ⟨rfl, rfl, rfl, by first | rfl | rw [ii_up_up]⟩
set_option maxRecDepth 20000 in
set_option maxHeartbeats 2000000 in
theorem n_stopRequest {l : Launch} {E : ab_E} {base : Nat} (hl : l.stackTraces = false) {ad : Nat → Nat} (f : Nat → Nat → Int) (w : Nat × Nat × Int64 × UInt64) (i : Int) (zi : -2147483648 ≤ i ∧ i < 2147483648) (h : ¬ (0 ≤ i ∧ i < f 40 29)) (hm : 0 ≤ f 40 29 ∧ f 40 29 ≤ 4) (j : Int) : ab_M l E base yX10_stopRequest cX10_stopRequest 3 (some .int) 5 0 0 [.ref (ad 40), ii_v i, ii_v j] ab_x4 ad (f, w) (ab_R (ii_v (0)) ab_x4 ad (ii_up f 40 0 1, w)) := by
  obtain ⟨Post, hPost⟩ : ∃ P : ab_P, P = (ab_R (ii_v (0)) ab_x4 ad (ii_up f 40 0 1, w)) := ⟨_, rfl⟩
  rw [← hPost]
  refine ab_of RX10 [(0, .ref (ad 40)), (1, ii_v i), (2, ii_v j)] hl (by decide) rfl (Nat.le_of_ble_eq_true rfl) rfl ?_
  intro p e s m args below meth c C T0 hnm
  refine a_aload_n C dX10_stopRequest_0 rfl ?_
  refine a_iload_n C dX10_stopRequest_1 rfl ?_
  refine a_iload_n C dX10_stopRequest_2 rfl ?_
  refine a_callV (o := 40) (As := [ii_v i, ii_v j]) C (n_isNoStop hl f w i (by omega) h hm j) co_X10_isNoStop in_X10 ml_X10_238 im_X10_isNoStop se_X10_isNoStop rfl rfl ar_X10_isNoStop ⟨by decide, by decide, by decide, by decide⟩ rfl (Nat.le_of_ble_eq_true rfl) dX10_stopRequest_3 (a_dR ?_) a_nR
  obtain ⟨g1, eg1⟩ : ∃ F : Nat → Nat → Int, F = ii_up f 40 0 1 := ⟨_, rfl⟩
  rw [← eg1]
  refine a_if_eq (tgt := 13) C dX10_stopRequest_6 rfl (by unfold ii_B; omega) (fun h6 => ?_) (fun h6 => ?_)
  · skip
    omega
  · skip
    refine a_iconst C dX10_stopRequest_9 ?_
    refine a_goto (tgt := 26) C dX10_stopRequest_10 rfl ?_
    refine a_iret C ?_ (by decide) (by decide) dX10_stopRequest_26
    rw [hPost]
    subst eg1
    exact ⟨rfl, rfl, rfl, by first | rfl | rw [ii_up_up]⟩
set_option maxRecDepth 20000 in
set_option maxHeartbeats 2000000 in
theorem m_stopRequest {l : Launch} {E : ab_E} {base : Nat} (hl : l.stackTraces = false) {ad : Nat → Nat} (f : Nat → Nat → Int) (w : Nat × Nat × Int64 × UInt64) (b : Nat) (hb : (b : Int) < f 40 29) (hm : 0 ≤ f 40 29 ∧ f 40 29 ≤ 4) {S : List Nat} (hS : mt_I f b S) (k : Nat) (hk : k < S.length) : ab_M l E base yX10_stopRequest cX10_stopRequest 3 (some .int) 5 0 0 [.ref (ad 40), ii_v ((b : Nat) : Int), ii_v ((k : Nat) : Int)] ab_x4 ad (f, w) (ab_R (ii_v (((S.getD k 0 / 2 : Nat) : Int))) ab_x4 ad (ii_up f 40 0 0, w)) := by
  obtain ⟨Post, hPost⟩ : ∃ P : ab_P, P = (ab_R (ii_v (((S.getD k 0 / 2 : Nat) : Int))) ab_x4 ad (ii_up f 40 0 0, w)) := ⟨_, rfl⟩
  rw [← hPost]
  refine ab_of RX10 [(0, .ref (ad 40)), (1, ii_v ((b : Nat) : Int)), (2, ii_v ((k : Nat) : Int))] hl (by decide) rfl (Nat.le_of_ble_eq_true rfl) rfl ?_
  intro p e s m args below meth c C T0 hnm
  have hb4 : b < 4 := by omega
  obtain ⟨hc, h8, hj8, hb64⟩ := id hS
  have hk64 := hb64 k hk
  refine a_aload_n C dX10_stopRequest_0 rfl ?_
  refine a_iload_n C dX10_stopRequest_1 rfl ?_
  refine a_iload_n C dX10_stopRequest_2 rfl ?_
  refine a_callV (o := 40) (As := [ii_v ((b : Nat) : Int), ii_v ((k : Nat) : Int)]) C (m_isNoStop hl f w b hb hm hS k hk) co_X10_isNoStop in_X10 ml_X10_238 im_X10_isNoStop se_X10_isNoStop rfl rfl ar_X10_isNoStop ⟨by decide, by decide, by decide, by decide⟩ rfl (Nat.le_of_ble_eq_true rfl) dX10_stopRequest_3 (a_dR ?_) a_nR
  obtain ⟨g1, eg1⟩ : ∃ F : Nat → Nat → Int, F = ii_up f 40 0 0 := ⟨_, rfl⟩
  rw [← eg1]
  refine a_if_eq (tgt := 13) C dX10_stopRequest_6 rfl (by unfold ii_B; omega) (fun h6 => ?_) (fun h6 => ?_)
  · skip
    refine a_aload_n C dX10_stopRequest_13 rfl ?_
    refine a_get (ci := 11) (i := 12) (v := .ref (ad 52)) C iw_X10 rfl (by decide) rfl fl_X10_43 rfl rfl dX10_stopRequest_14 ?_
    refine a_bipush C dX10_stopRequest_17 (by decide) ?_
    refine a_iload_n C dX10_stopRequest_19 rfl ?_
    refine a_imul C dX10_stopRequest_20 ?_
    refine a_iload_n C dX10_stopRequest_21 rfl ?_
    refine a_iadd C dX10_stopRequest_22 ?_
    refine a_iald (o := 52) (N := 32) ((8 * b) + k) C dX10_stopRequest_23 rfl (by omega) (by omega) (by decide) ?_
    refine a_top (w := ii_v (g1 52 ((8 * b) + k))) rfl ?_
    refine a_top (w := ii_v (f 52 ((8 * b) + k))) (congrArg (fun q => ii_v q) (show g1 52 ((8 * b) + k) = (f 52 ((8 * b) + k)) by rw [eg1, ii_up_o _ _ _ (by omega)])) ?_
    refine a_top (w := ii_v ((S.getD k 0 : Nat) : Int)) (congrArg (fun q => ii_v q) (hj8 k hk)) ?_
    refine a_iconst C dX10_stopRequest_24 ?_
    refine a_idiv C dX10_stopRequest_25 (by omega) (by omega) ?_
    refine a_iret C ?_ (by decide) (by decide) dX10_stopRequest_26
    rw [hPost]
    subst eg1
    exact ⟨rt_i (by omega), rfl, rfl, rfl⟩
  · skip
    omega
set_option maxRecDepth 20000 in
set_option maxHeartbeats 2000000 in
theorem n2_isPickup {l : Launch} {E : ab_E} {base : Nat} (hl : l.stackTraces = false) {ad : Nat → Nat} (f : Nat → Nat → Int) (w : Nat × Nat × Int64 × UInt64) (b : Nat) (hb : (b : Int) < f 40 29) (hm : 0 ≤ f 40 29 ∧ f 40 29 ≤ 4) {S : List Nat} (hS : mt_I f b S) (i : Int) (zi : -2147483648 ≤ i ∧ i < 2147483648) (h : i < 0 ∨ (S.length : Int) ≤ i) : ab_M l E base yX10_isPickup cX10_isPickup 3 (some .boolean) 5 0 0 [.ref (ad 40), ii_v ((b : Nat) : Int), ii_v i] ab_x4 ad (f, w) (ab_R (ii_v (0)) ab_x4 ad (ii_up f 40 0 2, w)) := by
  obtain ⟨Post, hPost⟩ : ∃ P : ab_P, P = (ab_R (ii_v (0)) ab_x4 ad (ii_up f 40 0 2, w)) := ⟨_, rfl⟩
  rw [← hPost]
  refine ab_of RX10 [(0, .ref (ad 40)), (1, ii_v ((b : Nat) : Int)), (2, ii_v i)] hl (by decide) rfl (Nat.le_of_ble_eq_true rfl) rfl ?_
  intro p e s m args below meth c C T0 hnm
  refine a_aload_n C dX10_isPickup_0 rfl ?_
  refine a_iload_n C dX10_isPickup_1 rfl ?_
  refine a_iload_n C dX10_isPickup_2 rfl ?_
  refine a_callV (o := 40) (As := [ii_v ((b : Nat) : Int), ii_v i]) C (n2_isNoStop hl f w b hb hm hS i (by omega) h) co_X10_isNoStop in_X10 ml_X10_238 im_X10_isNoStop se_X10_isNoStop rfl rfl ar_X10_isNoStop ⟨by decide, by decide, by decide, by decide⟩ rfl (Nat.le_of_ble_eq_true rfl) dX10_isPickup_3 (a_dR ?_) a_nR
  obtain ⟨g1, eg1⟩ : ∃ F : Nat → Nat → Int, F = ii_up f 40 0 2 := ⟨_, rfl⟩
  rw [← eg1]
  refine a_if_ne (tgt := 30) C dX10_isPickup_6 rfl (by unfold ii_B; omega) (fun h6 => ?_) (fun h6 => ?_)
  · skip
    refine a_iconst C dX10_isPickup_30 ?_
    refine a_zret C (by decide) ?_ (by decide) (by decide) dX10_isPickup_31
    rw [hPost]
    subst eg1
    exact ⟨rfl, rfl, rfl, by first | rfl | rw [ii_up_up]⟩
  · skip
    omega
set_option maxRecDepth 20000 in
set_option maxHeartbeats 2000000 in
theorem n_isPickup {l : Launch} {E : ab_E} {base : Nat} (hl : l.stackTraces = false) {ad : Nat → Nat} (f : Nat → Nat → Int) (w : Nat × Nat × Int64 × UInt64) (i : Int) (zi : -2147483648 ≤ i ∧ i < 2147483648) (h : ¬ (0 ≤ i ∧ i < f 40 29)) (hm : 0 ≤ f 40 29 ∧ f 40 29 ≤ 4) (j : Int) : ab_M l E base yX10_isPickup cX10_isPickup 3 (some .boolean) 5 0 0 [.ref (ad 40), ii_v i, ii_v j] ab_x4 ad (f, w) (ab_R (ii_v (0)) ab_x4 ad (ii_up f 40 0 1, w)) := by
  obtain ⟨Post, hPost⟩ : ∃ P : ab_P, P = (ab_R (ii_v (0)) ab_x4 ad (ii_up f 40 0 1, w)) := ⟨_, rfl⟩
  rw [← hPost]
  refine ab_of RX10 [(0, .ref (ad 40)), (1, ii_v i), (2, ii_v j)] hl (by decide) rfl (Nat.le_of_ble_eq_true rfl) rfl ?_
  intro p e s m args below meth c C T0 hnm
  refine a_aload_n C dX10_isPickup_0 rfl ?_
  refine a_iload_n C dX10_isPickup_1 rfl ?_
  refine a_iload_n C dX10_isPickup_2 rfl ?_
  refine a_callV (o := 40) (As := [ii_v i, ii_v j]) C (n_isNoStop hl f w i (by omega) h hm j) co_X10_isNoStop in_X10 ml_X10_238 im_X10_isNoStop se_X10_isNoStop rfl rfl ar_X10_isNoStop ⟨by decide, by decide, by decide, by decide⟩ rfl (Nat.le_of_ble_eq_true rfl) dX10_isPickup_3 (a_dR ?_) a_nR
  obtain ⟨g1, eg1⟩ : ∃ F : Nat → Nat → Int, F = ii_up f 40 0 1 := ⟨_, rfl⟩
  rw [← eg1]
  refine a_if_ne (tgt := 30) C dX10_isPickup_6 rfl (by unfold ii_B; omega) (fun h6 => ?_) (fun h6 => ?_)
  · skip
    refine a_iconst C dX10_isPickup_30 ?_
    refine a_zret C (by decide) ?_ (by decide) (by decide) dX10_isPickup_31
    rw [hPost]
    subst eg1
    exact ⟨rfl, rfl, rfl, by first | rfl | rw [ii_up_up]⟩
  · skip
    omega
set_option maxRecDepth 20000 in
set_option maxHeartbeats 2000000 in
theorem m_isPickup {l : Launch} {E : ab_E} {base : Nat} (hl : l.stackTraces = false) {ad : Nat → Nat} (f : Nat → Nat → Int) (w : Nat × Nat × Int64 × UInt64) (b : Nat) (hb : (b : Int) < f 40 29) (hm : 0 ≤ f 40 29 ∧ f 40 29 ≤ 4) {S : List Nat} (hS : mt_I f b S) (k : Nat) (hk : k < S.length) : ab_M l E base yX10_isPickup cX10_isPickup 3 (some .boolean) 5 0 0 [.ref (ad 40), ii_v ((b : Nat) : Int), ii_v ((k : Nat) : Int)] ab_x4 ad (f, w) (ab_R (ii_v (if S.getD k 0 % 2 = 0 then 1 else 0)) ab_x4 ad (ii_up f 40 0 0, w)) := by
  obtain ⟨Post, hPost⟩ : ∃ P : ab_P, P = (ab_R (ii_v (if S.getD k 0 % 2 = 0 then 1 else 0)) ab_x4 ad (ii_up f 40 0 0, w)) := ⟨_, rfl⟩
  rw [← hPost]
  refine ab_of RX10 [(0, .ref (ad 40)), (1, ii_v ((b : Nat) : Int)), (2, ii_v ((k : Nat) : Int))] hl (by decide) rfl (Nat.le_of_ble_eq_true rfl) rfl ?_
  intro p e s m args below meth c C T0 hnm
  have hb4 : b < 4 := by omega
  obtain ⟨hc, h8, hj8, hb64⟩ := id hS
  have hk64 := hb64 k hk
  refine a_aload_n C dX10_isPickup_0 rfl ?_
  refine a_iload_n C dX10_isPickup_1 rfl ?_
  refine a_iload_n C dX10_isPickup_2 rfl ?_
  refine a_callV (o := 40) (As := [ii_v ((b : Nat) : Int), ii_v ((k : Nat) : Int)]) C (m_isNoStop hl f w b hb hm hS k hk) co_X10_isNoStop in_X10 ml_X10_238 im_X10_isNoStop se_X10_isNoStop rfl rfl ar_X10_isNoStop ⟨by decide, by decide, by decide, by decide⟩ rfl (Nat.le_of_ble_eq_true rfl) dX10_isPickup_3 (a_dR ?_) a_nR
  obtain ⟨g1, eg1⟩ : ∃ F : Nat → Nat → Int, F = ii_up f 40 0 0 := ⟨_, rfl⟩
  rw [← eg1]
  refine a_if_ne (tgt := 30) C dX10_isPickup_6 rfl (by unfold ii_B; omega) (fun h6 => ?_) (fun h6 => ?_)
  · skip
    omega
  · skip
    refine a_aload_n C dX10_isPickup_9 rfl ?_
    refine a_get (ci := 11) (i := 12) (v := .ref (ad 52)) C iw_X10 rfl (by decide) rfl fl_X10_43 rfl rfl dX10_isPickup_10 ?_
    refine a_bipush C dX10_isPickup_13 (by decide) ?_
    refine a_iload_n C dX10_isPickup_15 rfl ?_
    refine a_imul C dX10_isPickup_16 ?_
    refine a_iload_n C dX10_isPickup_17 rfl ?_
    refine a_iadd C dX10_isPickup_18 ?_
    refine a_iald (o := 52) (N := 32) ((8 * b) + k) C dX10_isPickup_19 rfl (by omega) (by omega) (by decide) ?_
    refine a_top (w := ii_v (g1 52 ((8 * b) + k))) rfl ?_
    refine a_top (w := ii_v (f 52 ((8 * b) + k))) (congrArg (fun q => ii_v q) (show g1 52 ((8 * b) + k) = (f 52 ((8 * b) + k)) by rw [eg1, ii_up_o _ _ _ (by omega)])) ?_
    refine a_top (w := ii_v ((S.getD k 0 : Nat) : Int)) (congrArg (fun q => ii_v q) (hj8 k hk)) ?_
    refine a_callS (As := [ii_v (((S.getD k 0) : Nat) : Int)]) C (m_isDrop hl g1 w (S.getD k 0) (by omega)) co_X10_isDrop in_X10 ml_X10_135 sc_X10_isDrop ar_X10_isDrop ⟨by decide, by decide, by decide, by decide⟩ rfl (Nat.le_of_ble_eq_true rfl) dX10_isPickup_20 (a_dR ?_) a_nR
    rw [md_iff (P := (S.getD k 0) % 2 = 0)]
    refine a_bif_ne (tgt := 30) C dX10_isPickup_23 rfl (fun h23 => ?_) (fun h23 => ?_)
    · skip
      refine a_iconst C dX10_isPickup_30 ?_
      refine a_zret C (by decide) ?_ (by decide) (by decide) dX10_isPickup_31
      rw [hPost]
      subst eg1
      exact ⟨by first | exact rt_1 (by omega) | exact rt_0 (by omega), rfl, rfl, rfl⟩
    · skip
      refine a_iconst C dX10_isPickup_26 ?_
      refine a_goto (tgt := 31) C dX10_isPickup_27 rfl ?_
      refine a_zret C (by decide) ?_ (by decide) (by decide) dX10_isPickup_31
      rw [hPost]
      subst eg1
      exact ⟨by first | exact rt_1 (by omega) | exact rt_0 (by omega), rfl, rfl, rfl⟩
set_option maxRecDepth 20000 in
set_option maxHeartbeats 2000000 in
theorem n2_stopTime {l : Launch} {E : ab_E} {base : Nat} (hl : l.stackTraces = false) {ad : Nat → Nat} (f : Nat → Nat → Int) (w : Nat × Nat × Int64 × UInt64) (b : Nat) (hb : (b : Int) < f 40 29) (hm : 0 ≤ f 40 29 ∧ f 40 29 ≤ 4) {S : List Nat} (hS : mt_I f b S) (i : Int) (zi : -2147483648 ≤ i ∧ i < 2147483648) (h : i < 0 ∨ (S.length : Int) ≤ i) : ab_M l E base yX10_stopTime cX10_stopTime 3 (some .int) 5 0 0 [.ref (ad 40), ii_v ((b : Nat) : Int), ii_v i] ab_x4 ad (f, w) (ab_R (ii_v (0)) ab_x4 ad (ii_up f 40 0 2, w)) := by
  obtain ⟨Post, hPost⟩ : ∃ P : ab_P, P = (ab_R (ii_v (0)) ab_x4 ad (ii_up f 40 0 2, w)) := ⟨_, rfl⟩
  rw [← hPost]
  refine ab_of RX10 [(0, .ref (ad 40)), (1, ii_v ((b : Nat) : Int)), (2, ii_v i)] hl (by decide) rfl (Nat.le_of_ble_eq_true rfl) rfl ?_
  intro p e s m args below meth c C T0 hnm
  refine a_aload_n C dX10_stopTime_0 rfl ?_
  refine a_iload_n C dX10_stopTime_1 rfl ?_
  refine a_iload_n C dX10_stopTime_2 rfl ?_
  refine a_callV (o := 40) (As := [ii_v ((b : Nat) : Int), ii_v i]) C (n2_isNoStop hl f w b hb hm hS i (by omega) h) co_X10_isNoStop in_X10 ml_X10_238 im_X10_isNoStop se_X10_isNoStop rfl rfl ar_X10_isNoStop ⟨by decide, by decide, by decide, by decide⟩ rfl (Nat.le_of_ble_eq_true rfl) dX10_stopTime_3 (a_dR ?_) a_nR
  obtain ⟨g1, eg1⟩ : ∃ F : Nat → Nat → Int, F = ii_up f 40 0 2 := ⟨_, rfl⟩
  rw [← eg1]
  refine a_if_eq (tgt := 11) C dX10_stopTime_6 rfl (by unfold ii_B; omega) (fun h6 => ?_) (fun h6 => ?_)
  · skip
    omega
  · skip
    refine a_iconst C dX10_stopTime_9 ?_
    refine a_iret C ?_ (by decide) (by decide) dX10_stopTime_10
    rw [hPost]
    subst eg1
    exact ⟨rfl, rfl, rfl, by first | rfl | rw [ii_up_up]⟩
set_option maxRecDepth 20000 in
set_option maxHeartbeats 2000000 in
theorem n_stopTime {l : Launch} {E : ab_E} {base : Nat} (hl : l.stackTraces = false) {ad : Nat → Nat} (f : Nat → Nat → Int) (w : Nat × Nat × Int64 × UInt64) (i : Int) (zi : -2147483648 ≤ i ∧ i < 2147483648) (h : ¬ (0 ≤ i ∧ i < f 40 29)) (hm : 0 ≤ f 40 29 ∧ f 40 29 ≤ 4) (j : Int) : ab_M l E base yX10_stopTime cX10_stopTime 3 (some .int) 5 0 0 [.ref (ad 40), ii_v i, ii_v j] ab_x4 ad (f, w) (ab_R (ii_v (0)) ab_x4 ad (ii_up f 40 0 1, w)) := by
  obtain ⟨Post, hPost⟩ : ∃ P : ab_P, P = (ab_R (ii_v (0)) ab_x4 ad (ii_up f 40 0 1, w)) := ⟨_, rfl⟩
  rw [← hPost]
  refine ab_of RX10 [(0, .ref (ad 40)), (1, ii_v i), (2, ii_v j)] hl (by decide) rfl (Nat.le_of_ble_eq_true rfl) rfl ?_
  intro p e s m args below meth c C T0 hnm
  refine a_aload_n C dX10_stopTime_0 rfl ?_
  refine a_iload_n C dX10_stopTime_1 rfl ?_
  refine a_iload_n C dX10_stopTime_2 rfl ?_
  refine a_callV (o := 40) (As := [ii_v i, ii_v j]) C (n_isNoStop hl f w i (by omega) h hm j) co_X10_isNoStop in_X10 ml_X10_238 im_X10_isNoStop se_X10_isNoStop rfl rfl ar_X10_isNoStop ⟨by decide, by decide, by decide, by decide⟩ rfl (Nat.le_of_ble_eq_true rfl) dX10_stopTime_3 (a_dR ?_) a_nR
  obtain ⟨g1, eg1⟩ : ∃ F : Nat → Nat → Int, F = ii_up f 40 0 1 := ⟨_, rfl⟩
  rw [← eg1]
  refine a_if_eq (tgt := 11) C dX10_stopTime_6 rfl (by unfold ii_B; omega) (fun h6 => ?_) (fun h6 => ?_)
  · skip
    omega
  · skip
    refine a_iconst C dX10_stopTime_9 ?_
    refine a_iret C ?_ (by decide) (by decide) dX10_stopTime_10
    rw [hPost]
    subst eg1
    exact ⟨rfl, rfl, rfl, by first | rfl | rw [ii_up_up]⟩
set_option maxRecDepth 20000 in
set_option maxHeartbeats 2000000 in
theorem m_stopTime {l : Launch} {E : ab_E} {base : Nat} (hl : l.stackTraces = false) {ad : Nat → Nat} (f : Nat → Nat → Int) (w : Nat × Nat × Int64 × UInt64) (b : Nat) (hb : (b : Int) < f 40 29) (hm : 0 ≤ f 40 29 ∧ f 40 29 ≤ 4) {v : Nat → Nat → Int} (hv : pj_C f v) (hB : pk_B f b) {S : List Nat} (hS : mt_I f b S) (hS6 : S.length ≤ 6) (hq : ∀ j, j < S.length → S.getD j 0 / 2 ≤ 30) (hnow : 0 ≤ f 40 32 ∧ f 40 32 ≤ 100000) (k : Nat) (hk : k < S.length) : ab_M l E base yX10_stopTime cX10_stopTime 3 (some .int) 6 0 0 [.ref (ad 40), ii_v ((b : Nat) : Int), ii_v ((k : Nat) : Int)] ab_x4 ad (f, w) (ab_F ad w (fun ov g => ov = some (ii_v ((pl_tm v S (f 44 b) (f 45 b) (f 40 32)).getD k 0)) ∧ g 40 0 = 0 ∧ ml_F f g)) := by
  obtain ⟨Post, hPost⟩ : ∃ P : ab_P, P = (ab_F ad w (fun ov g => ov = some (ii_v ((pl_tm v S (f 44 b) (f 45 b) (f 40 32)).getD k 0)) ∧ g 40 0 = 0 ∧ ml_F f g)) := ⟨_, rfl⟩
  rw [← hPost]
  refine ab_of RX10 [(0, .ref (ad 40)), (1, ii_v ((b : Nat) : Int)), (2, ii_v ((k : Nat) : Int))] hl (by decide) rfl (Nat.le_of_ble_eq_true rfl) rfl ?_
  intro p e s m args below meth c C T0 hnm
  have hb4 : b < 4 := by omega
  obtain ⟨hc, h8, hj8, hb64⟩ := id hS
  have hk64 := hb64 k hk
  refine a_aload_n C dX10_stopTime_0 rfl ?_
  refine a_iload_n C dX10_stopTime_1 rfl ?_
  refine a_iload_n C dX10_stopTime_2 rfl ?_
  refine a_callV (o := 40) (As := [ii_v ((b : Nat) : Int), ii_v ((k : Nat) : Int)]) C (m_isNoStop hl f w b hb hm hS k hk) co_X10_isNoStop in_X10 ml_X10_238 im_X10_isNoStop se_X10_isNoStop rfl rfl ar_X10_isNoStop ⟨by decide, by decide, by decide, by decide⟩ rfl (Nat.le_of_ble_eq_true rfl) dX10_stopTime_3 (a_dR ?_) a_nR
  obtain ⟨g1, eg1⟩ : ∃ F : Nat → Nat → Int, F = ii_up f 40 0 0 := ⟨_, rfl⟩
  rw [← eg1]
  refine a_if_eq (tgt := 11) C dX10_stopTime_6 rfl (by unfold ii_B; omega) (fun h6 => ?_) (fun h6 => ?_)
  · skip
    have hrg1 : ∀ o, o ≠ 40 → g1 o = f o := fun o h => by rw [eg1]; exact ii_up_row _ _ h
    have h4g1 : ∀ i, i ≠ 0 → g1 40 i = f 40 i := fun i h => by rw [eg1]; exact ii_up_k _ _ h
    have h0g1 : g1 40 0 = 0 := by rw [eg1]; exact ii_up_s _ _ _ _
    have hvg1 : pj_C g1 v := pj_same hv (fun o2 h => hrg1 o2 (by omega))
    have hBg1 : pk_B g1 b := by unfold pk_B; rw [hrg1 41 (by decide), hrg1 43 (by decide), hrg1 44 (by decide), hrg1 45 (by decide), hrg1 46 (by decide), hrg1 47 (by decide)]; exact hB
    have hSg1 : mt_I g1 b S := mt_same hS (hrg1 51 (by decide)) (hrg1 52 (by decide))
    refine a_aload_n C dX10_stopTime_11 rfl ?_
    refine a_iload_n C dX10_stopTime_12 rfl ?_
    refine a_callV (o := 40) (As := [ii_v ((b : Nat) : Int)]) C (m_lengthOf hl g1 w b hb4 hvg1 hBg1 hSg1 hS6 hq (by rw [h4g1 32 (by decide)]; exact hnow)) co_X10_lengthOf in_X10 ml_X10_179 im_X10_lengthOf se_X10_lengthOf rfl rfl ar_X10_lengthOf ⟨by decide, by decide, by decide, by decide⟩ rfl (Nat.le_of_ble_eq_true rfl) dX10_stopTime_13 (a_dF ?_) a_nF
    intro vg2 g2 hvg2
    obtain ⟨hr0, -, hTg2, hfg2, hig2⟩ := hvg2
    rw [hrg1 46 (by decide), hrg1 47 (by decide), hrg1 44 (by decide), hrg1 45 (by decide)] at hr0
    rw [hrg1 44 (by decide), hrg1 45 (by decide), h4g1 32 (by decide)] at hTg2
    subst hr0
    refine a_pop C dX10_stopTime_16 rfl ?_
    refine a_aload_n C dX10_stopTime_17 rfl ?_
    refine a_get (ci := 11) (i := 36) (v := .ref (ad 76)) C iw_X10 rfl (by decide) rfl fl_X10_105 rfl rfl dX10_stopTime_18 ?_
    refine a_iload_n C dX10_stopTime_21 rfl ?_
    refine a_iald (o := 76) (N := 8) k C dX10_stopTime_22 rfl (by omega) (by omega) (by decide) ?_
    refine a_top (w := ii_v (g2 76 k)) rfl ?_
    refine a_top (w := ii_v ((pl_tm v S (f 44 b) (f 45 b) (f 40 32)).getD k 0)) (congrArg (fun q => ii_v q) (hTg2 k hk)) ?_
    refine a_iret C ?_ (by decide) (by decide) dX10_stopTime_23
    rw [hPost]
    exact ab_F_of ⟨rfl, (hig2 0 (by decide)).trans h0g1, fun o h1 h2 h3 => (hfg2 o h1 (by omega) (by omega)).trans (hrg1 o h1), fun i h1 h2 => (hig2 i (by omega)).trans (h4g1 i h2)⟩
  · skip
    omega
set_option maxRecDepth 20000 in
set_option maxHeartbeats 2000000 in
theorem m_timeOf {l : Launch} {E : ab_E} {base : Nat} (hl : l.stackTraces = false) {ad : Nat → Nat} (f : Nat → Nat → Int) (w : Nat × Nat × Int64 × UInt64) (b : Nat) (hb : b < 4) {v : Nat → Nat → Int} (hv : pj_C f v) (hB : pk_B f b) {S : List Nat} (hS : mt_I f b S) (hS6 : S.length ≤ 6) (hq : ∀ j, j < S.length → S.getD j 0 / 2 ≤ 30) (hnow : 0 ≤ f 40 32 ∧ f 40 32 ≤ 100000) (hnd : nd_L S) (q : Nat) (hqm : q ∈ S) (hbo : f 60 (q / 2) = (b : Int))  : ab_M l E base yX10_timeOf cX10_timeOf 4 (some .int) 5 0 0 [.ref (ad 40), ii_v ((q : Nat) : Int)] ab_x4 ad (f, w) (ab_F ad w (fun ov g => ov = some (ii_v ((pl_tm v S (f 44 b) (f 45 b) (f 40 32)).getD (S.idxOf q) 0)) ∧ (∀ o2, o2 ≠ 40 → o2 ≠ 75 → o2 ≠ 76 → g o2 = f o2) ∧ ∀ i, i ≠ 37 → g 40 i = f 40 i)) := by
  obtain ⟨Post, hPost⟩ : ∃ P : ab_P, P = (ab_F ad w (fun ov g => ov = some (ii_v ((pl_tm v S (f 44 b) (f 45 b) (f 40 32)).getD (S.idxOf q) 0)) ∧ (∀ o2, o2 ≠ 40 → o2 ≠ 75 → o2 ≠ 76 → g o2 = f o2) ∧ ∀ i, i ≠ 37 → g 40 i = f 40 i)) := ⟨_, rfl⟩
  rw [← hPost]
  refine ab_of RX10 [(0, .ref (ad 40)), (1, ii_v ((q : Nat) : Int))] hl (by decide) rfl (Nat.le_of_ble_eq_true rfl) rfl ?_
  intro p e s m args below meth c C T0 hnm
  obtain ⟨hc, h8, hj8, hb64⟩ := id hS
  have hq30 : q / 2 ≤ 30 := by obtain ⟨j, hj, he⟩ := gd_of_mem (d := 0) hqm; rw [← he]; exact hq j hj
  have hq64 : q < 64 := by omega
  refine a_aload_n C dX10_timeOf_0 rfl ?_
  refine a_aload_n C dX10_timeOf_1 rfl ?_
  refine a_get (ci := 11) (i := 20) (v := .ref (ad 60)) C iw_X10 rfl (by decide) rfl fl_X10_67 rfl rfl dX10_timeOf_2 ?_
  refine a_iload_n C dX10_timeOf_5 rfl ?_
  refine a_iconst C dX10_timeOf_6 ?_
  refine a_idiv C dX10_timeOf_7 (by omega) (by omega) ?_
  refine a_iald (o := 60) (N := 31) (q / 2) C dX10_timeOf_8 rfl (by omega) (by omega) (by decide) ?_
  refine a_top (w := ii_v (f 60 (q / 2))) rfl ?_
  refine a_top (w := ii_v ((b : Nat) : Int)) (congrArg (fun q => ii_v q) hbo) ?_
  refine a_callV (o := 40) (As := [ii_v ((b : Nat) : Int)]) C (m_copies hl f w b hb hS hS6) co_X10_copies in_X10 ml_X10_169 im_X10_copies se_X10_copies rfl rfl ar_X10_copies ⟨by decide, by decide, by decide, by decide⟩ rfl (Nat.le_of_ble_eq_true rfl) dX10_timeOf_9 (a_dF ?_) a_nF
  intro vg1 g1 hvg1
  obtain ⟨rfl, hsg1, hfg1, h40g1⟩ := hvg1
  have hr : ∀ o, o ≠ 40 → o ≠ 75 → g1 o = f o := hfg1
  have ht1 : g1 40 32 = f 40 32 := h40g1 32 (by decide)
  have hv1 : pj_C g1 v := pj_same hv (fun o2 h => hfg1 o2 (by omega) (by omega))
  have hB1 : pk_B g1 b := by unfold pk_B; rw [hr 41 (by decide) (by decide), hr 43 (by decide) (by decide), hr 44 (by decide) (by decide), hr 45 (by decide) (by decide), hr 46 (by decide) (by decide), hr 47 (by decide) (by decide)]; exact hB
  refine a_aload_n C dX10_timeOf_12 rfl ?_
  refine a_aload_n C dX10_timeOf_13 rfl ?_
  refine a_get (ci := 11) (i := 20) (v := .ref (ad 60)) C iw_X10 rfl (by decide) rfl fl_X10_67 rfl rfl dX10_timeOf_14 ?_
  refine a_iload_n C dX10_timeOf_17 rfl ?_
  refine a_iconst C dX10_timeOf_18 ?_
  refine a_idiv C dX10_timeOf_19 (by omega) (by omega) ?_
  refine a_iald (o := 60) (N := 31) (q / 2) C dX10_timeOf_20 rfl (by omega) (by omega) (by decide) ?_
  refine a_top (w := ii_v (g1 60 (q / 2))) rfl ?_
  refine a_top (w := ii_v ((b : Nat) : Int)) (congrArg (fun q => ii_v q) ((congrFun (hfg1 60 (by decide) (by decide)) _).trans hbo)) ?_
  refine a_callV (o := 40) (As := [ii_v ((b : Nat) : Int)]) C (m_runs hl g1 w b hb hv1 hB1 hsg1 hq (by rw [ht1]; exact hnow)) co_X10_runs in_X10 ml_X10_160 im_X10_runs se_X10_runs rfl rfl ar_X10_runs ⟨by decide, by decide, by decide, by decide⟩ rfl (Nat.le_of_ble_eq_true rfl) dX10_timeOf_21 (a_dF ?_) a_nF
  intro vg2 g2 hvg2
  obtain ⟨hr0, hTg2, hfg2⟩ := hvg2
  rw [hr 44 (by decide) (by decide), hr 45 (by decide) (by decide), ht1] at hTg2
  subst hr0
  have hs2 : tr_I g2 S := tr_same hsg1 (hfg2 40 (by decide)) (hfg2 75 (by decide))
  have hidx := gd_idx (d := 0) hqm
  refine a_pop C dX10_timeOf_24 rfl ?_
  refine a_iconst C dX10_timeOf_25 ?_
  refine a_istore_n (L' := [(0, .ref (ad 40)), (1, ii_v ((q : Nat) : Int)), (2, ii_v (-1))]) C dX10_timeOf_26 (by decide) rfl ?_
  refine a_iconst C dX10_timeOf_27 ?_
  refine a_istore_n (L' := [(0, .ref (ad 40)), (1, ii_v ((q : Nat) : Int)), (2, ii_v (-1)), (3, ii_v 0)]) C dX10_timeOf_28 (by decide) rfl ?_
  rw [show (ii_v (-1) : Value) = ii_v (if S.idxOf q < 0 then (pl_tm v S (f 44 b) (f 45 b) (f 40 32)).getD (S.idxOf q) 0 else -1) from congrArg (fun z => ii_v z) (if_neg (Nat.not_lt_zero _)).symm]
  have loop29 : ∀ (NN29 : Nat) (k : Nat), S.length - k < NN29 → (k ≤ S.length) → ab_W p l e (ab_rm 5 0 0) s m args below meth c E base 4 (ab_Q below E base Post args s 0 0) ab_x4 ad (g2, w) 0 0 29 [(0, .ref (ad 40)), (1, ii_v ((q : Nat) : Int)), (2, ii_v (if S.idxOf q < k then (pl_tm v S (f 44 b) (f 45 b) (f 40 32)).getD (S.idxOf q) 0 else -1)), (3, ii_v ((k : Nat) : Int))] [] := by
    intro NN29
    induction NN29 with
    | zero => intro k hNN; exact absurd hNN (Nat.not_lt_zero _)
    | succ NN29 ih29 =>
      intro k hNN hk
      refine a_iload_n C dX10_timeOf_29 rfl ?_
      refine a_aload_n C dX10_timeOf_30 rfl ?_
      refine a_get (ci := 11) (i := 37) (v := ii_v (g2 40 37)) C iw_X10 rfl (by decide) rfl fl_X10_144 rfl rfl dX10_timeOf_31 ?_
      refine a_top (w := ii_v ((S.length : Nat) : Int)) (congrArg (fun q => ii_v q) hs2.1) ?_
      refine a_icmp_ge (tgt := 64) C dX10_timeOf_34 rfl (by unfold ii_B; omega) (by unfold ii_B; omega) (fun h34 => ?_) (fun h34 => ?_)
      · skip
        refine a_iload_n C dX10_timeOf_64 rfl ?_
        refine a_iret C ?_ (by decide) (by decide) dX10_timeOf_65
        rw [hPost]
        exact ab_F_of ⟨rt_j (by rw [if_pos (by omega)]), fun o2 h1 h2 h3 => (hfg2 o2 h3).trans (hfg1 o2 h1 h2), fun i h => (congrFun (hfg2 40 (by decide)) i).trans (h40g1 i h)⟩
      · skip
        have hkq := hb64 k (by omega)
        refine a_aload_n C dX10_timeOf_37 rfl ?_
        refine a_get (ci := 11) (i := 35) (v := .ref (ad 75)) C iw_X10 rfl (by decide) rfl fl_X10_102 rfl rfl dX10_timeOf_38 ?_
        refine a_iload_n C dX10_timeOf_41 rfl ?_
        refine a_iald (o := 75) (N := 8) k C dX10_timeOf_42 rfl (by omega) (by omega) (by decide) ?_
        refine a_top (w := ii_v (g2 75 k)) rfl ?_
        refine a_top (w := ii_v ((S.getD k 0 : Nat) : Int)) (congrArg (fun q => ii_v q) (hs2.2.2.1 k (by omega))) ?_
        refine a_iload_n C dX10_timeOf_43 rfl ?_
        refine a_icmp_ne (tgt := 56) C dX10_timeOf_44 rfl (by unfold ii_B; omega) (by unfold ii_B; omega) (fun h44 => ?_) (fun h44 => ?_)
        · skip
          have hik : S.idxOf q ≠ k := fun z => by rw [← z] at h44; exact h44 (by rw [hidx.2])
          refine a_iload_n C dX10_timeOf_56 rfl ?_
          refine a_istore_n (L' := [(0, .ref (ad 40)), (1, ii_v ((q : Nat) : Int)), (2, ii_v (if S.idxOf q < k then (pl_tm v S (f 44 b) (f 45 b) (f 40 32)).getD (S.idxOf q) 0 else -1)), (3, ii_v ((k : Nat) : Int))]) C dX10_timeOf_57 (by decide) rfl ?_
          rw [show (if S.idxOf q < k then (pl_tm v S (f 44 b) (f 45 b) (f 40 32)).getD (S.idxOf q) 0 else -1) = (if S.idxOf q < (k + 1) then (pl_tm v S (f 44 b) (f 45 b) (f 40 32)).getD (S.idxOf q) 0 else -1) from by rcases Nat.lt_or_ge (S.idxOf q) k with hz | hz; exact (if_pos hz).trans (if_pos (by omega)).symm; exact (if_neg (by omega)).trans (if_neg (by omega)).symm]
          refine a_iinc (L' := [(0, .ref (ad 40)), (1, ii_v ((q : Nat) : Int)), (2, ii_v (if S.idxOf q < (k + 1) then (pl_tm v S (f 44 b) (f 45 b) (f 40 32)).getD (S.idxOf q) 0 else -1)), (3, ii_v (((k : Nat) : Int) + 1))]) C dX10_timeOf_58 rfl (by decide) rfl ?_
          refine a_goto (tgt := 29) C dX10_timeOf_61 rfl ?_
          exact ih29 (k + 1) (by omega) (by omega)
        · skip
          have hik : S.idxOf q = k := hnd _ _ hidx.1 (by omega) (by rw [hidx.2]; omega)
          refine a_aload_n C dX10_timeOf_47 rfl ?_
          refine a_get (ci := 11) (i := 36) (v := .ref (ad 76)) C iw_X10 rfl (by decide) rfl fl_X10_105 rfl rfl dX10_timeOf_48 ?_
          refine a_iload_n C dX10_timeOf_51 rfl ?_
          refine a_iald (o := 76) (N := 8) k C dX10_timeOf_52 rfl (by omega) (by omega) (by decide) ?_
          refine a_top (w := ii_v (g2 76 k)) rfl ?_
          refine a_top (w := ii_v ((pl_tm v S (f 44 b) (f 45 b) (f 40 32)).getD k 0)) (congrArg (fun q => ii_v q) (hTg2 k (by omega))) ?_
          refine a_goto (tgt := 57) C dX10_timeOf_53 rfl ?_
          refine a_istore_n (L' := [(0, .ref (ad 40)), (1, ii_v ((q : Nat) : Int)), (2, ii_v ((pl_tm v S (f 44 b) (f 45 b) (f 40 32)).getD k 0)), (3, ii_v ((k : Nat) : Int))]) C dX10_timeOf_57 (by decide) rfl ?_
          rw [show ((pl_tm v S (f 44 b) (f 45 b) (f 40 32)).getD k 0) = (if S.idxOf q < (k + 1) then (pl_tm v S (f 44 b) (f 45 b) (f 40 32)).getD (S.idxOf q) 0 else -1) from by rw [if_pos (show S.idxOf q < k + 1 by omega), hik]]
          refine a_iinc (L' := [(0, .ref (ad 40)), (1, ii_v ((q : Nat) : Int)), (2, ii_v (if S.idxOf q < (k + 1) then (pl_tm v S (f 44 b) (f 45 b) (f 40 32)).getD (S.idxOf q) 0 else -1)), (3, ii_v (((k : Nat) : Int) + 1))]) C dX10_timeOf_58 rfl (by decide) rfl ?_
          refine a_goto (tgt := 29) C dX10_timeOf_61 rfl ?_
          exact ih29 (k + 1) (by omega) (by omega)
  exact loop29 (_ + 1) 0 (Nat.lt_succ_self _) (Nat.zero_le _)
set_option maxRecDepth 20000 in
set_option maxHeartbeats 2000000 in
theorem m_pickupTime {l : Launch} {E : ab_E} {base : Nat} (hl : l.stackTraces = false) {ad : Nat → Nat} (f : Nat → Nat → Int) (w : Nat × Nat × Int64 × UInt64) (r : Nat) (hr : (r : Int) < f 40 30) (hm : 0 ≤ f 40 30 ∧ f 40 30 ≤ 30) (hst : st_ok (f 63 r)) (h : f 63 r = 119) (b : Nat) (hb : b < 4) {v : Nat → Nat → Int} (hv : pj_C f v) (hB : pk_B f b) {S : List Nat} (hS : mt_I f b S) (hS6 : S.length ≤ 6) (hq : ∀ j, j < S.length → S.getD j 0 / 2 ≤ 30) (hnow : 0 ≤ f 40 32 ∧ f 40 32 ≤ 100000) (hnd : nd_L S) (hqm : 2 * r ∈ S) (hbo : f 60 r = (b : Int))  : ab_M l E base yX10_pickupTime cX10_pickupTime 2 (some .int) 6 0 0 [.ref (ad 40), ii_v ((r : Nat) : Int)] ab_x4 ad (f, w) (ab_F ad w (fun ov g => ov = some (ii_v ((pl_tm v S (f 44 b) (f 45 b) (f 40 32)).getD (S.idxOf (2 * r)) 0)) ∧ g 40 0 = 0 ∧ ml_F f g)) := by
  obtain ⟨Post, hPost⟩ : ∃ P : ab_P, P = (ab_F ad w (fun ov g => ov = some (ii_v ((pl_tm v S (f 44 b) (f 45 b) (f 40 32)).getD (S.idxOf (2 * r)) 0)) ∧ g 40 0 = 0 ∧ ml_F f g)) := ⟨_, rfl⟩
  rw [← hPost]
  refine ab_of RX10 [(0, .ref (ad 40)), (1, ii_v ((r : Nat) : Int))] hl (by decide) rfl (Nat.le_of_ble_eq_true rfl) rfl ?_
  intro p e s m args below meth c C T0 hnm
  have hstb := st_b hst
  have hb4 : b < 4 := hb
  have hr30 : r < 30 := by omega
  refine a_aload_n C dX10_pickupTime_0 rfl ?_
  refine a_iconst C dX10_pickupTime_1 ?_
  refine a_put (ci := 11) (i := 0) C iw_X10 rfl (by decide) rfl tyX10 tyX10_ok nmX10 rfl rfl fl_X10_114 rfl rfl rfl rfl dX10_pickupTime_2 ?_
  obtain ⟨g1, eg1⟩ : ∃ F : Nat → Nat → Int, F = ii_up f 40 0 0 := ⟨_, rfl⟩
  rw [← eg1]
  have hrg1 : ∀ o, o ≠ 40 → g1 o = f o := fun o h => by rw [eg1]; exact ii_up_row _ _ h
  have h4g1 : ∀ i, i ≠ 0 → g1 40 i = f 40 i := fun i h => by rw [eg1]; exact ii_up_k _ _ h
  have h0g1 : g1 40 0 = 0 := by rw [eg1]; exact ii_up_s _ _ _ _
  have hvg1 : pj_C g1 v := pj_same hv (fun o2 h => hrg1 o2 (by omega))
  have hBg1 : pk_B g1 b := by unfold pk_B; rw [hrg1 41 (by decide), hrg1 43 (by decide), hrg1 44 (by decide), hrg1 45 (by decide), hrg1 46 (by decide), hrg1 47 (by decide)]; exact hB
  have hSg1 : mt_I g1 b S := mt_same hS (hrg1 51 (by decide)) (hrg1 52 (by decide))
  refine a_aload_n C dX10_pickupTime_5 rfl ?_
  refine a_iload_n C dX10_pickupTime_6 rfl ?_
  refine a_callV (o := 40) (As := [ii_v ((r : Nat) : Int)]) C (m_isRequest hl g1 w ((r : Nat) : Int) (by omega) (by rw [show g1 40 30 = f 40 30 from by rw [eg1]; exact ii_up_k _ _ (by decide)]; omega)) co_X10_isRequest in_X10 ml_X10_229 im_X10_isRequest se_X10_isRequest rfl rfl ar_X10_isRequest ⟨by decide, by decide, by decide, by decide⟩ rfl (Nat.le_of_ble_eq_true rfl) dX10_pickupTime_7 (a_dR ?_) a_nR
  rw [show g1 40 30 = f 40 30 from by rw [eg1]; exact ii_up_k _ _ (by decide)]
  refine a_bif_ne (tgt := 19) C dX10_pickupTime_10 rfl (fun h10 => ?_) (fun h10 => ?_)
  · skip
    refine a_aload_n C dX10_pickupTime_19 rfl ?_
    refine a_get (ci := 11) (i := 23) (v := .ref (ad 63)) C iw_X10 rfl (by decide) rfl fl_X10_76 rfl rfl dX10_pickupTime_20 ?_
    refine a_iload_n C dX10_pickupTime_23 rfl ?_
    refine a_cald (o := 63) (N := 31) r C dX10_pickupTime_24 rfl (by omega) (by omega) (by decide) ?_
    refine a_top (w := ii_v (g1 63 r)) rfl ?_
    refine a_top (w := ii_v (f 63 r)) (congrArg (fun q => ii_v q) (show g1 63 r = (f 63 r) by rw [eg1, ii_up_o _ _ _ (by omega)])) ?_
    refine a_bipush C dX10_pickupTime_25 (by decide) ?_
    refine a_icmp_eq (tgt := 41) C dX10_pickupTime_27 rfl (by unfold ii_B; omega) (by unfold ii_B; omega) (fun h27 => ?_) (fun h27 => ?_)
    · skip
      omega
    · skip
      refine a_aload_n C dX10_pickupTime_30 rfl ?_
      refine a_get (ci := 11) (i := 23) (v := .ref (ad 63)) C iw_X10 rfl (by decide) rfl fl_X10_76 rfl rfl dX10_pickupTime_31 ?_
      refine a_iload_n C dX10_pickupTime_34 rfl ?_
      refine a_cald (o := 63) (N := 31) r C dX10_pickupTime_35 rfl (by omega) (by omega) (by decide) ?_
      refine a_top (w := ii_v (g1 63 r)) rfl ?_
      refine a_top (w := ii_v (f 63 r)) (congrArg (fun q => ii_v q) (show g1 63 r = (f 63 r) by rw [eg1, ii_up_o _ _ _ (by omega)])) ?_
      refine a_bipush C dX10_pickupTime_36 (by decide) ?_
      refine a_icmp_ne (tgt := 47) C dX10_pickupTime_38 rfl (by unfold ii_B; omega) (by unfold ii_B; omega) (fun h38 => ?_) (fun h38 => ?_)
      · skip
        refine a_aload_n C dX10_pickupTime_47 rfl ?_
        refine a_get (ci := 11) (i := 23) (v := .ref (ad 63)) C iw_X10 rfl (by decide) rfl fl_X10_76 rfl rfl dX10_pickupTime_48 ?_
        refine a_iload_n C dX10_pickupTime_51 rfl ?_
        refine a_cald (o := 63) (N := 31) r C dX10_pickupTime_52 rfl (by omega) (by omega) (by decide) ?_
        refine a_top (w := ii_v (g1 63 r)) rfl ?_
        refine a_top (w := ii_v (f 63 r)) (congrArg (fun q => ii_v q) (show g1 63 r = (f 63 r) by rw [eg1, ii_up_o _ _ _ (by omega)])) ?_
        refine a_bipush C dX10_pickupTime_53 (by decide) ?_
        refine a_icmp_ne (tgt := 68) C dX10_pickupTime_55 rfl (by unfold ii_B; omega) (by unfold ii_B; omega) (fun h55 => ?_) (fun h55 => ?_)
        · skip
          omega
        · skip
          refine a_aload_n C dX10_pickupTime_58 rfl ?_
          refine a_iconst C dX10_pickupTime_59 ?_
          refine a_iload_n C dX10_pickupTime_60 rfl ?_
          refine a_imul C dX10_pickupTime_61 ?_
          rw [show (2 * ((r : Nat) : Int)) = ((2 * r : Nat) : Int) by omega]
          refine a_callV (o := 40) (As := [ii_v (((2 * r) : Nat) : Int)]) C (m_timeOf hl g1 w b hb hvg1 hBg1 hSg1 hS6 hq (by rw [h4g1 32 (by decide)]; exact hnow) hnd (2 * r) hqm (by rw [hrg1 60 (by decide), show (2 * r) / 2 = r by omega]; exact hbo)) co_X10_timeOf in_X10 ml_X10_232 im_X10_timeOf se_X10_timeOf rfl rfl ar_X10_timeOf ⟨by decide, by decide, by decide, by decide⟩ rfl (Nat.le_of_ble_eq_true rfl) dX10_pickupTime_62 (a_dF ?_) a_nF
          intro vg2 g2 hvg2
          obtain ⟨rfl, hfg2, hig2⟩ := hvg2
          rw [hrg1 44 (by decide), hrg1 45 (by decide), h4g1 32 (by decide)]
          refine a_goto (tgt := 74) C dX10_pickupTime_65 rfl ?_
          refine a_iret C ?_ (by decide) (by decide) dX10_pickupTime_74
          rw [hPost]
          exact ab_F_of ⟨rfl, (hig2 0 (by decide)).trans h0g1, fun o h1 h2 h3 => (hfg2 o h1 (by omega) (by omega)).trans (hrg1 o h1), fun i h1 h2 => (hig2 i (by omega)).trans (h4g1 i h2)⟩
      · skip
        omega
  · skip
    omega
set_option maxRecDepth 20000 in
set_option maxHeartbeats 2000000 in
theorem m_dropTime2 {l : Launch} {E : ab_E} {base : Nat} (hl : l.stackTraces = false) {ad : Nat → Nat} (f : Nat → Nat → Int) (w : Nat × Nat × Int64 × UInt64) (r : Nat) (hr : (r : Int) < f 40 30) (hm : 0 ≤ f 40 30 ∧ f 40 30 ≤ 30) (hst : st_ok (f 63 r)) (h : f 63 r ≠ 120 ∧ f 63 r ≠ 99 ∧ f 63 r ≠ 100) (b : Nat) (hb : b < 4) {v : Nat → Nat → Int} (hv : pj_C f v) (hB : pk_B f b) {S : List Nat} (hS : mt_I f b S) (hS6 : S.length ≤ 6) (hq : ∀ j, j < S.length → S.getD j 0 / 2 ≤ 30) (hnow : 0 ≤ f 40 32 ∧ f 40 32 ≤ 100000) (hnd : nd_L S) (hqm : 2 * r + 1 ∈ S) (hbo : f 60 r = (b : Int))  : ab_M l E base yX10_dropTime cX10_dropTime 2 (some .int) 6 0 0 [.ref (ad 40), ii_v ((r : Nat) : Int)] ab_x4 ad (f, w) (ab_F ad w (fun ov g => ov = some (ii_v ((pl_tm v S (f 44 b) (f 45 b) (f 40 32)).getD (S.idxOf (2 * r + 1)) 0)) ∧ g 40 0 = 0 ∧ ml_F f g)) := by
  obtain ⟨Post, hPost⟩ : ∃ P : ab_P, P = (ab_F ad w (fun ov g => ov = some (ii_v ((pl_tm v S (f 44 b) (f 45 b) (f 40 32)).getD (S.idxOf (2 * r + 1)) 0)) ∧ g 40 0 = 0 ∧ ml_F f g)) := ⟨_, rfl⟩
  rw [← hPost]
  refine ab_of RX10 [(0, .ref (ad 40)), (1, ii_v ((r : Nat) : Int))] hl (by decide) rfl (Nat.le_of_ble_eq_true rfl) rfl ?_
  intro p e s m args below meth c C T0 hnm
  have hstb := st_b hst
  have hb4 : b < 4 := hb
  have hr30 : r < 30 := by omega
  refine a_aload_n C dX10_dropTime_0 rfl ?_
  refine a_iconst C dX10_dropTime_1 ?_
  refine a_put (ci := 11) (i := 0) C iw_X10 rfl (by decide) rfl tyX10 tyX10_ok nmX10 rfl rfl fl_X10_114 rfl rfl rfl rfl dX10_dropTime_2 ?_
  obtain ⟨g1, eg1⟩ : ∃ F : Nat → Nat → Int, F = ii_up f 40 0 0 := ⟨_, rfl⟩
  rw [← eg1]
  have hrg1 : ∀ o, o ≠ 40 → g1 o = f o := fun o h => by rw [eg1]; exact ii_up_row _ _ h
  have h4g1 : ∀ i, i ≠ 0 → g1 40 i = f 40 i := fun i h => by rw [eg1]; exact ii_up_k _ _ h
  have h0g1 : g1 40 0 = 0 := by rw [eg1]; exact ii_up_s _ _ _ _
  have hvg1 : pj_C g1 v := pj_same hv (fun o2 h => hrg1 o2 (by omega))
  have hBg1 : pk_B g1 b := by unfold pk_B; rw [hrg1 41 (by decide), hrg1 43 (by decide), hrg1 44 (by decide), hrg1 45 (by decide), hrg1 46 (by decide), hrg1 47 (by decide)]; exact hB
  have hSg1 : mt_I g1 b S := mt_same hS (hrg1 51 (by decide)) (hrg1 52 (by decide))
  refine a_aload_n C dX10_dropTime_5 rfl ?_
  refine a_iload_n C dX10_dropTime_6 rfl ?_
  refine a_callV (o := 40) (As := [ii_v ((r : Nat) : Int)]) C (m_isRequest hl g1 w ((r : Nat) : Int) (by omega) (by rw [show g1 40 30 = f 40 30 from by rw [eg1]; exact ii_up_k _ _ (by decide)]; omega)) co_X10_isRequest in_X10 ml_X10_229 im_X10_isRequest se_X10_isRequest rfl rfl ar_X10_isRequest ⟨by decide, by decide, by decide, by decide⟩ rfl (Nat.le_of_ble_eq_true rfl) dX10_dropTime_7 (a_dR ?_) a_nR
  rw [show g1 40 30 = f 40 30 from by rw [eg1]; exact ii_up_k _ _ (by decide)]
  refine a_bif_ne (tgt := 19) C dX10_dropTime_10 rfl (fun h10 => ?_) (fun h10 => ?_)
  · skip
    refine a_aload_n C dX10_dropTime_19 rfl ?_
    refine a_get (ci := 11) (i := 23) (v := .ref (ad 63)) C iw_X10 rfl (by decide) rfl fl_X10_76 rfl rfl dX10_dropTime_20 ?_
    refine a_iload_n C dX10_dropTime_23 rfl ?_
    refine a_cald (o := 63) (N := 31) r C dX10_dropTime_24 rfl (by omega) (by omega) (by decide) ?_
    refine a_top (w := ii_v (g1 63 r)) rfl ?_
    refine a_top (w := ii_v (f 63 r)) (congrArg (fun q => ii_v q) (show g1 63 r = (f 63 r) by rw [eg1, ii_up_o _ _ _ (by omega)])) ?_
    refine a_bipush C dX10_dropTime_25 (by decide) ?_
    refine a_icmp_eq (tgt := 41) C dX10_dropTime_27 rfl (by unfold ii_B; omega) (by unfold ii_B; omega) (fun h27 => ?_) (fun h27 => ?_)
    · skip
      omega
    · skip
      refine a_aload_n C dX10_dropTime_30 rfl ?_
      refine a_get (ci := 11) (i := 23) (v := .ref (ad 63)) C iw_X10 rfl (by decide) rfl fl_X10_76 rfl rfl dX10_dropTime_31 ?_
      refine a_iload_n C dX10_dropTime_34 rfl ?_
      refine a_cald (o := 63) (N := 31) r C dX10_dropTime_35 rfl (by omega) (by omega) (by decide) ?_
      refine a_top (w := ii_v (g1 63 r)) rfl ?_
      refine a_top (w := ii_v (f 63 r)) (congrArg (fun q => ii_v q) (show g1 63 r = (f 63 r) by rw [eg1, ii_up_o _ _ _ (by omega)])) ?_
      refine a_bipush C dX10_dropTime_36 (by decide) ?_
      refine a_icmp_ne (tgt := 47) C dX10_dropTime_38 rfl (by unfold ii_B; omega) (by unfold ii_B; omega) (fun h38 => ?_) (fun h38 => ?_)
      · skip
        refine a_aload_n C dX10_dropTime_47 rfl ?_
        refine a_get (ci := 11) (i := 23) (v := .ref (ad 63)) C iw_X10 rfl (by decide) rfl fl_X10_76 rfl rfl dX10_dropTime_48 ?_
        refine a_iload_n C dX10_dropTime_51 rfl ?_
        refine a_cald (o := 63) (N := 31) r C dX10_dropTime_52 rfl (by omega) (by omega) (by decide) ?_
        refine a_top (w := ii_v (g1 63 r)) rfl ?_
        refine a_top (w := ii_v (f 63 r)) (congrArg (fun q => ii_v q) (show g1 63 r = (f 63 r) by rw [eg1, ii_up_o _ _ _ (by omega)])) ?_
        refine a_bipush C dX10_dropTime_53 (by decide) ?_
        refine a_icmp_ne (tgt := 67) C dX10_dropTime_55 rfl (by unfold ii_B; omega) (by unfold ii_B; omega) (fun h55 => ?_) (fun h55 => ?_)
        · skip
          refine a_aload_n C dX10_dropTime_67 rfl ?_
          refine a_iconst C dX10_dropTime_68 ?_
          refine a_iload_n C dX10_dropTime_69 rfl ?_
          refine a_imul C dX10_dropTime_70 ?_
          refine a_iconst C dX10_dropTime_71 ?_
          refine a_iadd C dX10_dropTime_72 ?_
          rw [show ((2 * ((r : Nat) : Int)) + 1) = ((2 * r + 1 : Nat) : Int) by omega]
          refine a_callV (o := 40) (As := [ii_v (((2 * r + 1) : Nat) : Int)]) C (m_timeOf hl g1 w b hb hvg1 hBg1 hSg1 hS6 hq (by rw [h4g1 32 (by decide)]; exact hnow) hnd (2 * r + 1) hqm (by rw [hrg1 60 (by decide), show (2 * r + 1) / 2 = r by omega]; exact hbo)) co_X10_timeOf in_X10 ml_X10_232 im_X10_timeOf se_X10_timeOf rfl rfl ar_X10_timeOf ⟨by decide, by decide, by decide, by decide⟩ rfl (Nat.le_of_ble_eq_true rfl) dX10_dropTime_73 (a_dF ?_) a_nF
          intro vg2 g2 hvg2
          obtain ⟨rfl, hfg2, hig2⟩ := hvg2
          rw [hrg1 44 (by decide), hrg1 45 (by decide), h4g1 32 (by decide)]
          refine a_iret C ?_ (by decide) (by decide) dX10_dropTime_76
          rw [hPost]
          exact ab_F_of ⟨rfl, (hig2 0 (by decide)).trans h0g1, fun o h1 h2 h3 => (hfg2 o h1 (by omega) (by omega)).trans (hrg1 o h1), fun i h1 h2 => (hig2 i (by omega)).trans (h4g1 i h2)⟩
        · skip
          omega
      · skip
        omega
  · skip
    omega
