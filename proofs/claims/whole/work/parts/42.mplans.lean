/-! The model: copies, puts, plans. -/
/-- the bus b's tour in the model -/
def mt_I (f : Nat → Nat → Int) (b : Nat) (S : List Nat) : Prop := f 51 b = (S.length : Int) ∧ S.length ≤ 8 ∧ (∀ j, j < S.length → f 52 (8 * b + j) = ((S.getD j 0 : Nat) : Int)) ∧ ∀ j, j < S.length → S.getD j 0 < 64
theorem tr_app {f g1 g2 : Nat → Nat → Int} {P : List Nat} {q : Nat} (h : tr_I f P) (hl : P.length < 8) (hq : q < 64) (e1 : g1 = ii_up f 75 P.length ((q : Nat) : Int)) (e2 : g2 = ii_up g1 40 37 (((P.length : Nat) : Int) + 1)) : tr_I g2 (P ++ [q]) := by
  obtain ⟨h1, h2, h3, h4⟩ := h
  subst e2
  subst e1
  refine ⟨?_, ?_, fun j hj => ?_, fun j hj => ?_⟩
  · rw [ii_up_s, List.length_append]
    simp
  · rw [List.length_append]
    simp
    omega
  · rw [List.length_append] at hj
    simp at hj
    rw [ii_up_o _ _ _ (by decide)]
    rcases Nat.lt_or_ge j P.length with z | z
    · rw [ii_up_k _ _ (by omega), gd_app_l z]
      exact h3 j z
    · rw [show j = P.length by omega, ii_up_s, gd_app_r (Nat.le_refl _), Nat.sub_self]
      rfl
  · rw [List.length_append] at hj
    simp at hj
    rcases Nat.lt_or_ge j P.length with z | z
    · rw [gd_app_l z]
      exact h4 j z
    · rw [show j = P.length by omega, gd_app_r (Nat.le_refl _), Nat.sub_self]
      exact hq
set_option maxRecDepth 20000 in
set_option maxHeartbeats 2000000 in
theorem m_copies {l : Launch} {E : ab_E} {base : Nat} (hl : l.stackTraces = false) {ad : Nat → Nat} (f : Nat → Nat → Int) (w : Nat × Nat × Int64 × UInt64) (b : Nat) (hb : b < 4) {S : List Nat} (hS : mt_I f b S) (hS6 : S.length ≤ 6)  : ab_M l E base yX10_copies cX10_copies 3 none 1 0 0 [.ref (ad 40), ii_v ((b : Nat) : Int)] ab_x4 ad (f, w) (ab_F ad w (fun r g => r = none ∧ tr_I g S ∧ (∀ o2, o2 ≠ 40 → o2 ≠ 75 → g o2 = f o2) ∧ ∀ i, i ≠ 37 → g 40 i = f 40 i)) := by
  obtain ⟨Post, hPost⟩ : ∃ P : ab_P, P = (ab_F ad w (fun r g => r = none ∧ tr_I g S ∧ (∀ o2, o2 ≠ 40 → o2 ≠ 75 → g o2 = f o2) ∧ ∀ i, i ≠ 37 → g 40 i = f 40 i)) := ⟨_, rfl⟩
  rw [← hPost]
  refine ab_of RX10 [(0, .ref (ad 40)), (1, ii_v ((b : Nat) : Int))] hl (by decide) rfl (Nat.le_of_ble_eq_true rfl) rfl ?_
  intro p e s m args below meth c C T0 hnm
  obtain ⟨hc, h8, hj, hb64⟩ := id hS
  refine a_aload_n C dX10_copies_0 rfl ?_
  refine a_aload_n C dX10_copies_1 rfl ?_
  refine a_get (ci := 11) (i := 11) (v := .ref (ad 51)) C iw_X10 rfl (by decide) rfl fl_X10_40 rfl rfl dX10_copies_2 ?_
  refine a_iload_n C dX10_copies_5 rfl ?_
  refine a_iald (o := 51) (N := 4) b C dX10_copies_6 rfl (by omega) (by omega) (by decide) ?_
  refine a_top (w := ii_v (f 51 b)) rfl ?_
  refine a_top (w := ii_v ((S.length : Nat) : Int)) (congrArg (fun q => ii_v q) hc) ?_
  refine a_put (ci := 11) (i := 37) C iw_X10 rfl (by decide) rfl tyX10 tyX10_ok nmX10 rfl rfl fl_X10_144 rfl rfl rfl rfl dX10_copies_7 ?_
  obtain ⟨g1, eg1⟩ : ∃ F : Nat → Nat → Int, F = ii_up f 40 37 ((S.length : Nat) : Int) := ⟨_, rfl⟩
  rw [← eg1]
  have hng1 : g1 40 37 = (S.length : Int) := by rw [eg1, ii_up_s]
  have hfrg1 : ∀ o2, o2 ≠ 40 → o2 ≠ 75 → g1 o2 = f o2 := fun o2 h h2 => by rw [eg1, ii_up_row _ _ h]
  refine a_iconst C dX10_copies_10 ?_
  refine a_istore_n (L' := [(0, .ref (ad 40)), (1, ii_v ((b : Nat) : Int)), (2, ii_v 0)]) C dX10_copies_11 (by decide) rfl ?_
  have loop12 : ∀ (NN12 : Nat) (k : Nat) (g : Nat → Nat → Int), S.length - k < NN12 → (k ≤ S.length) → (g 40 37 = (S.length : Int)) → (∀ j, j < k → g 75 j = ((S.getD j 0 : Nat) : Int)) → (∀ o2, o2 ≠ 40 → o2 ≠ 75 → g o2 = f o2) → (∀ i, i ≠ 37 → g 40 i = f 40 i) → ab_W p l e (ab_rm 1 0 0) s m args below meth c E base 3 (ab_Q below E base Post args s 0 0) ab_x4 ad (g, w) 0 0 12 [(0, .ref (ad 40)), (1, ii_v ((b : Nat) : Int)), (2, ii_v ((k : Nat) : Int))] [] := by
    intro NN12
    induction NN12 with
    | zero => intro k g hNN; exact absurd hNN (Nat.not_lt_zero _)
    | succ NN12 ih12 =>
      intro k g hNN hk hng hgj hfrg h40
      refine a_iload_n C dX10_copies_12 rfl ?_
      refine a_aload_n C dX10_copies_13 rfl ?_
      refine a_get (ci := 11) (i := 37) (v := ii_v (g 40 37)) C iw_X10 rfl (by decide) rfl fl_X10_144 rfl rfl dX10_copies_14 ?_
      refine a_top (w := ii_v ((S.length : Nat) : Int)) (congrArg (fun q => ii_v q) hng) ?_
      refine a_icmp_ge (tgt := 43) C dX10_copies_17 rfl (by unfold ii_B; omega) (by unfold ii_B; omega) (fun h17 => ?_) (fun h17 => ?_)
      · skip
        refine a_vret C ?_ (by decide) (by decide) dX10_copies_43
        rw [hPost]
        exact ab_F_of ⟨rfl, ⟨hng, h8, fun j h => hgj j (by omega), hb64⟩, hfrg, h40⟩
      · skip
        refine a_aload_n C dX10_copies_20 rfl ?_
        refine a_get (ci := 11) (i := 35) (v := .ref (ad 75)) C iw_X10 rfl (by decide) rfl fl_X10_102 rfl rfl dX10_copies_21 ?_
        refine a_iload_n C dX10_copies_24 rfl ?_
        refine a_aload_n C dX10_copies_25 rfl ?_
        refine a_get (ci := 11) (i := 12) (v := .ref (ad 52)) C iw_X10 rfl (by decide) rfl fl_X10_43 rfl rfl dX10_copies_26 ?_
        refine a_bipush C dX10_copies_29 (by decide) ?_
        refine a_iload_n C dX10_copies_31 rfl ?_
        refine a_imul C dX10_copies_32 ?_
        refine a_iload_n C dX10_copies_33 rfl ?_
        refine a_iadd C dX10_copies_34 ?_
        refine a_iald (o := 52) (N := 32) ((8 * b) + k) C dX10_copies_35 rfl (by omega) (by omega) (by decide) ?_
        refine a_top (w := ii_v (g 52 ((8 * b) + k))) rfl ?_
        refine a_top (w := ii_v ((S.getD k 0 : Nat) : Int)) (congrArg (fun q => ii_v q) ((congrFun (hfrg 52 (by decide) (by decide)) _).trans (hj k (by omega)))) ?_
        refine a_iast (o := 75) (N := 8) k C dX10_copies_36 rfl (by omega) (by omega) (by decide) ?_
        obtain ⟨g2, eg2⟩ : ∃ F : Nat → Nat → Int, F = ii_up g 75 k (((S.getD k 0) : Nat) : Int) := ⟨_, rfl⟩
        rw [← eg2]
        refine a_iinc (L' := [(0, .ref (ad 40)), (1, ii_v ((b : Nat) : Int)), (2, ii_v (((k : Nat) : Int) + 1))]) C dX10_copies_37 rfl (by decide) rfl ?_
        refine a_goto (tgt := 12) C dX10_copies_40 rfl ?_
        exact ih12 (k + 1) g2 (by omega) (by omega) (by rw [eg2, ii_up_o _ _ _ (by decide)]; exact hng) (by rw [eg2]; exact lt_s (fun j h => by rw [ii_up_k _ _ (by omega)]; exact hgj j h) (ii_up_s _ _ _ _)) (fun o2 h h2 => by rw [eg2, ii_up_row _ _ h2]; exact hfrg o2 h h2) (fun i h => by rw [eg2, ii_up_o _ _ _ (by decide)]; exact h40 i h)
  exact loop12 (_ + 1) 0 g1 (Nat.lt_succ_self _) (Nat.zero_le _) hng1 (fun j h => absurd h (Nat.not_lt_zero j)) hfrg1 (fun i h => by rw [eg1]; exact ii_up_k _ _ h)
set_option maxRecDepth 20000 in
set_option maxHeartbeats 2000000 in
theorem m_lengthOf {l : Launch} {E : ab_E} {base : Nat} (hl : l.stackTraces = false) {ad : Nat → Nat} (f : Nat → Nat → Int) (w : Nat × Nat × Int64 × UInt64) (b : Nat) (hb : b < 4) {v : Nat → Nat → Int} (hv : pj_C f v) (hB : pk_B f b) {S : List Nat} (hS : mt_I f b S) (hS6 : S.length ≤ 6) (hq : ∀ j, j < S.length → S.getD j 0 / 2 ≤ 30) (hnow : 0 ≤ f 40 32 ∧ f 40 32 ≤ 100000)  : ab_M l E base yX10_lengthOf cX10_lengthOf 2 (some .int) 4 0 0 [.ref (ad 40), ii_v ((b : Nat) : Int)] ab_x4 ad (f, w) (ab_F ad w (fun r g => r = some (ii_v (pl_len v (f 46 b) (f 47 b) S (f 44 b) (f 45 b))) ∧ tr_I g S ∧ (∀ j, j < S.length → g 76 j = (pl_tm v S (f 44 b) (f 45 b) (f 40 32)).getD j 0) ∧ (∀ o2, o2 ≠ 40 → o2 ≠ 75 → o2 ≠ 76 → g o2 = f o2) ∧ ∀ i, i ≠ 37 → g 40 i = f 40 i)) := by
  obtain ⟨Post, hPost⟩ : ∃ P : ab_P, P = (ab_F ad w (fun r g => r = some (ii_v (pl_len v (f 46 b) (f 47 b) S (f 44 b) (f 45 b))) ∧ tr_I g S ∧ (∀ j, j < S.length → g 76 j = (pl_tm v S (f 44 b) (f 45 b) (f 40 32)).getD j 0) ∧ (∀ o2, o2 ≠ 40 → o2 ≠ 75 → o2 ≠ 76 → g o2 = f o2) ∧ ∀ i, i ≠ 37 → g 40 i = f 40 i)) := ⟨_, rfl⟩
  rw [← hPost]
  refine ab_of RX10 [(0, .ref (ad 40)), (1, ii_v ((b : Nat) : Int))] hl (by decide) rfl (Nat.le_of_ble_eq_true rfl) rfl ?_
  intro p e s m args below meth c C T0 hnm
  refine a_aload_n C dX10_lengthOf_0 rfl ?_
  refine a_iload_n C dX10_lengthOf_1 rfl ?_
  refine a_callV (o := 40) (As := [ii_v ((b : Nat) : Int)]) C (m_copies hl f w b hb hS hS6) co_X10_copies in_X10 ml_X10_169 im_X10_copies se_X10_copies rfl rfl ar_X10_copies ⟨by decide, by decide, by decide, by decide⟩ rfl (Nat.le_of_ble_eq_true rfl) dX10_lengthOf_2 (a_dF ?_) a_nF
  intro vg1 g1 hvg1
  obtain ⟨rfl, hsg1, hfg1, h40g1⟩ := hvg1
  have h41g1 : g1 41 = f 41 := hfg1 41 (by decide) (by decide)
  have h43g1 : g1 43 = f 43 := hfg1 43 (by decide) (by decide)
  have h44g1 : g1 44 = f 44 := hfg1 44 (by decide) (by decide)
  have h45g1 : g1 45 = f 45 := hfg1 45 (by decide) (by decide)
  have h46g1 : g1 46 = f 46 := hfg1 46 (by decide) (by decide)
  have h47g1 : g1 47 = f 47 := hfg1 47 (by decide) (by decide)
  have htg1 : g1 40 32 = f 40 32 := h40g1 32 (by decide)
  have hvg12 : pj_C g1 v := pj_same hv (fun o2 h => hfg1 o2 (by omega) (by omega))
  have hBg1 : pk_B g1 b := by unfold pk_B; rw [h41g1, h43g1, h44g1, h45g1, h46g1, h47g1]; exact hB
  refine a_aload_n C dX10_lengthOf_5 rfl ?_
  refine a_iload_n C dX10_lengthOf_6 rfl ?_
  refine a_callV (o := 40) (As := [ii_v ((b : Nat) : Int)]) C (m_runs hl g1 w b hb hvg12 hBg1 hsg1 hq (by rw [htg1]; exact hnow)) co_X10_runs in_X10 ml_X10_160 im_X10_runs se_X10_runs rfl rfl ar_X10_runs ⟨by decide, by decide, by decide, by decide⟩ rfl (Nat.le_of_ble_eq_true rfl) dX10_lengthOf_7 (a_dF ?_) a_nF
  intro vg2 g2 hvg2
  obtain ⟨hr0, hTg2, hgg2⟩ := hvg2
  rw [h44g1, h45g1, h46g1, h47g1] at hr0
  rw [h44g1, h45g1, htg1] at hTg2
  subst hr0
  refine a_iret C ?_ (by decide) (by decide) dX10_lengthOf_10
  rw [hPost]
  exact ab_F_of ⟨rfl, tr_same hsg1 (hgg2 40 (by decide)) (hgg2 75 (by decide)), hTg2, fun o2 h1 h2 h3 => (hgg2 o2 h3).trans (hfg1 o2 h1 h2), fun i h => (congrFun (hgg2 40 (by decide)) i).trans (h40g1 i h)⟩
set_option maxRecDepth 20000 in
set_option maxHeartbeats 2000000 in
theorem m_puts {l : Launch} {E : ab_E} {base : Nat} (hl : l.stackTraces = false) {ad : Nat → Nat} (f : Nat → Nat → Int) (w : Nat × Nat × Int64 × UInt64) (b : Nat) (hb : b < 4) {S : List Nat} (hS : mt_I f b S) (hS6 : S.length ≤ 6) (r i j : Nat) (hr32 : r < 31) (hij : i ≤ j) (hjl : j ≤ S.length) : ab_M l E base yX10_puts cX10_puts 6 none 1 0 0 [.ref (ad 40), ii_v ((b : Nat) : Int), ii_v ((r : Nat) : Int), ii_v ((i : Nat) : Int), ii_v ((j : Nat) : Int)] ab_x4 ad (f, w) (ab_F ad w (fun ov g => ov = none ∧ tr_I g (lay_f r i j S 0) ∧ (∀ o2, o2 ≠ 40 → o2 ≠ 75 → g o2 = f o2) ∧ ∀ i, i ≠ 37 → g 40 i = f 40 i)) := by
  obtain ⟨Post, hPost⟩ : ∃ P : ab_P, P = (ab_F ad w (fun ov g => ov = none ∧ tr_I g (lay_f r i j S 0) ∧ (∀ o2, o2 ≠ 40 → o2 ≠ 75 → g o2 = f o2) ∧ ∀ i, i ≠ 37 → g 40 i = f 40 i)) := ⟨_, rfl⟩
  rw [← hPost]
  refine ab_of RX10 [(0, .ref (ad 40)), (1, ii_v ((b : Nat) : Int)), (2, ii_v ((r : Nat) : Int)), (3, ii_v ((i : Nat) : Int)), (4, ii_v ((j : Nat) : Int))] hl (by decide) rfl (Nat.le_of_ble_eq_true rfl) rfl ?_
  intro p e s m args below meth c C T0 hnm
  obtain ⟨hc, h8, hj, hb64⟩ := id hS
  refine a_aload_n C dX10_puts_0 rfl ?_
  refine a_iconst C dX10_puts_1 ?_
  refine a_put (ci := 11) (i := 37) C iw_X10 rfl (by decide) rfl tyX10 tyX10_ok nmX10 rfl rfl fl_X10_144 rfl rfl rfl rfl dX10_puts_2 ?_
  obtain ⟨g1, eg1⟩ : ∃ F : Nat → Nat → Int, F = ii_up f 40 37 0 := ⟨_, rfl⟩
  rw [← eg1]
  refine a_iconst C dX10_puts_5 ?_
  refine a_istore (L' := [(0, .ref (ad 40)), (1, ii_v ((b : Nat) : Int)), (2, ii_v ((r : Nat) : Int)), (3, ii_v ((i : Nat) : Int)), (4, ii_v ((j : Nat) : Int)), (5, ii_v 0)]) C dX10_puts_6 (by decide) rfl ?_
  have loop8 : ∀ (NN8 : Nat) (k : Nat) (P : List Nat) (g : Nat → Nat → Int), S.length + 1 - k < NN8 → (k ≤ S.length + 1) → (tr_I g P) → (∀ o2, o2 ≠ 40 → o2 ≠ 75 → g o2 = f o2) → (∀ i, i ≠ 37 → g 40 i = f 40 i) → (k ≤ S.length → P.length = k + (if i < k then 1 else 0) + (if j < k then 1 else 0)) → ((k ≤ S.length → P ++ lay_f r i j (S.drop k) k = lay_f r i j S 0) ∧ (k = S.length + 1 → P = lay_f r i j S 0)) → ab_W p l e (ab_rm 1 0 0) s m args below meth c E base 6 (ab_Q below E base Post args s 0 0) ab_x4 ad (g, w) 0 0 8 [(0, .ref (ad 40)), (1, ii_v ((b : Nat) : Int)), (2, ii_v ((r : Nat) : Int)), (3, ii_v ((i : Nat) : Int)), (4, ii_v ((j : Nat) : Int)), (5, ii_v ((k : Nat) : Int))] [] := by
    intro NN8
    induction NN8 with
    | zero => intro k P g hNN; exact absurd hNN (Nat.not_lt_zero _)
    | succ NN8 ih8 =>
      intro k P g hNN hk hP hfr h40 hPl hE
      refine a_iload C dX10_puts_8 rfl ?_
      refine a_aload_n C dX10_puts_10 rfl ?_
      refine a_get (ci := 11) (i := 11) (v := .ref (ad 51)) C iw_X10 rfl (by decide) rfl fl_X10_40 rfl rfl dX10_puts_11 ?_
      refine a_iload_n C dX10_puts_14 rfl ?_
      refine a_iald (o := 51) (N := 4) b C dX10_puts_15 rfl (by omega) (by omega) (by decide) ?_
      refine a_top (w := ii_v (g 51 b)) rfl ?_
      refine a_top (w := ii_v ((S.length : Nat) : Int)) (congrArg (fun q => ii_v q) ((congrFun (hfr 51 (by decide) (by decide)) _).trans hc)) ?_
      refine a_icmp_gt (tgt := 126) C dX10_puts_16 rfl (by unfold ii_B; omega) (by unfold ii_B; omega) (fun h16 => ?_) (fun h16 => ?_)
      · skip
        refine a_vret C ?_ (by decide) (by decide) dX10_puts_126
        rw [hPost]
        refine ab_F_of ⟨rfl, ?_, hfr, h40⟩
        rw [← hE.2 (by omega)]
        exact hP
      · skip
        refine a_iload C dX10_puts_19 rfl ?_
        refine a_iload_n C dX10_puts_21 rfl ?_
        refine a_icmp_ne (tgt := 47) C dX10_puts_22 rfl (by unfold ii_B; omega) (by unfold ii_B; omega) (fun h22 => ?_) (fun h22 => ?_)
        · skip
          refine a_iload C dX10_puts_47 rfl ?_
          refine a_iload C dX10_puts_49 rfl ?_
          refine a_icmp_ne (tgt := 78) C dX10_puts_51 rfl (by unfold ii_B; omega) (by unfold ii_B; omega) (fun h51 => ?_) (fun h51 => ?_)
          · skip
            refine a_iload C dX10_puts_78 rfl ?_
            refine a_aload_n C dX10_puts_80 rfl ?_
            refine a_get (ci := 11) (i := 11) (v := .ref (ad 51)) C iw_X10 rfl (by decide) rfl fl_X10_40 rfl rfl dX10_puts_81 ?_
            refine a_iload_n C dX10_puts_84 rfl ?_
            refine a_iald (o := 51) (N := 4) b C dX10_puts_85 rfl (by omega) (by omega) (by decide) ?_
            refine a_top (w := ii_v (g 51 b)) rfl ?_
            refine a_top (w := ii_v ((S.length : Nat) : Int)) (congrArg (fun q => ii_v q) ((congrFun (hfr 51 (by decide) (by decide)) _).trans hc)) ?_
            refine a_icmp_ge (tgt := 120) C dX10_puts_86 rfl (by unfold ii_B; omega) (by unfold ii_B; omega) (fun h86 => ?_) (fun h86 => ?_)
            · skip
              refine a_iinc (L' := [(0, .ref (ad 40)), (1, ii_v ((b : Nat) : Int)), (2, ii_v ((r : Nat) : Int)), (3, ii_v ((i : Nat) : Int)), (4, ii_v ((j : Nat) : Int)), (5, ii_v (((k : Nat) : Int) + 1))]) C dX10_puts_120 rfl (by decide) rfl ?_
              refine a_goto (tgt := 8) C dX10_puts_123 rfl ?_
              exact ih8 (k + 1) P g (by omega) (by omega) hP hfr h40 (fun h => by omega) ⟨fun h => (by omega), fun _ => (by have e := hE.1 (by omega); rw [List.drop_eq_nil_of_le (by omega)] at e; simp only [lay_f] at e; (first | rw [if_pos (show k = i by omega)] at e | rw [if_neg (show ¬ k = i by omega)] at e); (first | rw [if_pos (show k = j by omega)] at e | rw [if_neg (show ¬ k = j by omega)] at e); simpa using e)⟩
            · skip
              have hlP : (P).length < 8 := (by have := lay_b (hPl (by omega)) ((if_neg (by omega)).symm) ((if_neg (by omega)).symm); omega)
              have hbk := hb64 k (by omega)
              refine a_aload_n C dX10_puts_89 rfl ?_
              refine a_get (ci := 11) (i := 35) (v := .ref (ad 75)) C iw_X10 rfl (by decide) rfl fl_X10_102 rfl rfl dX10_puts_90 ?_
              refine a_aload_n C dX10_puts_93 rfl ?_
              refine a_get (ci := 11) (i := 37) (v := ii_v (g 40 37)) C iw_X10 rfl (by decide) rfl fl_X10_144 rfl rfl dX10_puts_94 ?_
              refine a_top (w := ii_v ((P.length : Nat) : Int)) (congrArg (fun q => ii_v q) hP.1) ?_
              refine a_aload_n C dX10_puts_97 rfl ?_
              refine a_get (ci := 11) (i := 12) (v := .ref (ad 52)) C iw_X10 rfl (by decide) rfl fl_X10_43 rfl rfl dX10_puts_98 ?_
              refine a_bipush C dX10_puts_101 (by decide) ?_
              refine a_iload_n C dX10_puts_103 rfl ?_
              refine a_imul C dX10_puts_104 ?_
              refine a_iload C dX10_puts_105 rfl ?_
              refine a_iadd C dX10_puts_107 ?_
              refine a_iald (o := 52) (N := 32) ((8 * b) + k) C dX10_puts_108 rfl (by omega) (by omega) (by decide) ?_
              refine a_top (w := ii_v (g 52 ((8 * b) + k))) rfl ?_
              refine a_top (w := ii_v ((S.getD k 0 : Nat) : Int)) (congrArg (fun q => ii_v q) ((congrFun (hfr 52 (by decide) (by decide)) _).trans (hj k (by omega)))) ?_
              refine a_iast (o := 75) (N := 8) P.length C dX10_puts_109 rfl (by omega) (by omega) (by decide) ?_
              obtain ⟨g2, eg2⟩ : ∃ F : Nat → Nat → Int, F = ii_up g 75 P.length (((S.getD k 0) : Nat) : Int) := ⟨_, rfl⟩
              rw [← eg2]
              refine a_aload_n C dX10_puts_110 rfl ?_
              refine a_dup C dX10_puts_111 rfl ?_
              refine a_get (ci := 11) (i := 37) (v := ii_v (g2 40 37)) C iw_X10 rfl (by decide) rfl fl_X10_144 rfl rfl dX10_puts_112 ?_
              refine a_top (w := ii_v ((P.length : Nat) : Int)) (congrArg (fun q => ii_v q) (by rw [eg2, ii_up_o _ _ _ (by decide)]; exact hP.1)) ?_
              refine a_iconst C dX10_puts_115 ?_
              refine a_iadd C dX10_puts_116 ?_
              refine a_put (ci := 11) (i := 37) C iw_X10 rfl (by decide) rfl tyX10 tyX10_ok nmX10 rfl rfl fl_X10_144 rfl rfl rfl rfl dX10_puts_117 ?_
              obtain ⟨g3, eg3⟩ : ∃ F : Nat → Nat → Int, F = ii_up g2 40 37 (((P.length : Nat) : Int) + 1) := ⟨_, rfl⟩
              rw [← eg3]
              have hPg3 : tr_I g3 (P ++ [(S.getD k 0)]) := tr_app hP ((by have := lay_b (hPl (by omega)) ((if_neg (by omega)).symm) ((if_neg (by omega)).symm); omega)) (by omega) eg2 eg3
              have hfrg3 : ∀ o2, o2 ≠ 40 → o2 ≠ 75 → g3 o2 = f o2 := fun o2 h h2 => by rw [eg3, ii_up_row _ _ h, eg2, ii_up_row _ _ h2]; exact hfr o2 h h2
              have h40g3 : ∀ i, i ≠ 37 → g3 40 i = f 40 i := fun i h => by rw [eg3, ii_up_k _ _ h, eg2, ii_up_o _ _ _ (by decide)]; exact h40 i h
              refine a_iinc (L' := [(0, .ref (ad 40)), (1, ii_v ((b : Nat) : Int)), (2, ii_v ((r : Nat) : Int)), (3, ii_v ((i : Nat) : Int)), (4, ii_v ((j : Nat) : Int)), (5, ii_v (((k : Nat) : Int) + 1))]) C dX10_puts_120 rfl (by decide) rfl ?_
              refine a_goto (tgt := 8) C dX10_puts_123 rfl ?_
              exact ih8 (k + 1) (P ++ [(S.getD k 0)]) g3 (by omega) (by omega) hPg3 hfrg3 h40g3 (fun h => lay_len (hPl (by omega)) ((if_neg (by omega)).symm) ((if_neg (by omega)).symm) (by simp)) ⟨fun _ => (by have e := hE.1 (by omega); rw [ls_drop (by omega)] at e; simp only [lay_f] at e; (first | rw [if_pos (show k = i by omega)] at e | rw [if_neg (show ¬ k = i by omega)] at e); (first | rw [if_pos (show k = j by omega)] at e | rw [if_neg (show ¬ k = j by omega)] at e); simpa using e), fun h => (by omega)⟩
          · skip
            have hlP : (P).length < 8 := (by have := lay_b (hPl (by omega)) ((if_neg (by omega)).symm) ((if_pos (by omega)).symm); omega)
            refine a_aload_n C dX10_puts_54 rfl ?_
            refine a_get (ci := 11) (i := 35) (v := .ref (ad 75)) C iw_X10 rfl (by decide) rfl fl_X10_102 rfl rfl dX10_puts_55 ?_
            refine a_aload_n C dX10_puts_58 rfl ?_
            refine a_get (ci := 11) (i := 37) (v := ii_v (g 40 37)) C iw_X10 rfl (by decide) rfl fl_X10_144 rfl rfl dX10_puts_59 ?_
            refine a_top (w := ii_v ((P.length : Nat) : Int)) (congrArg (fun q => ii_v q) hP.1) ?_
            refine a_iconst C dX10_puts_62 ?_
            refine a_iload_n C dX10_puts_63 rfl ?_
            refine a_imul C dX10_puts_64 ?_
            refine a_iconst C dX10_puts_65 ?_
            refine a_iadd C dX10_puts_66 ?_
            refine a_iast (o := 75) (N := 8) P.length C dX10_puts_67 rfl (by omega) (by omega) (by decide) ?_
            obtain ⟨g4, eg4⟩ : ∃ F : Nat → Nat → Int, F = ii_up g 75 P.length ((2 * ((r : Nat) : Int)) + 1) := ⟨_, rfl⟩
            rw [← eg4]
            refine a_aload_n C dX10_puts_68 rfl ?_
            refine a_dup C dX10_puts_69 rfl ?_
            refine a_get (ci := 11) (i := 37) (v := ii_v (g4 40 37)) C iw_X10 rfl (by decide) rfl fl_X10_144 rfl rfl dX10_puts_70 ?_
            refine a_top (w := ii_v ((P.length : Nat) : Int)) (congrArg (fun q => ii_v q) (by rw [eg4, ii_up_o _ _ _ (by decide)]; exact hP.1)) ?_
            refine a_iconst C dX10_puts_73 ?_
            refine a_iadd C dX10_puts_74 ?_
            refine a_put (ci := 11) (i := 37) C iw_X10 rfl (by decide) rfl tyX10 tyX10_ok nmX10 rfl rfl fl_X10_144 rfl rfl rfl rfl dX10_puts_75 ?_
            obtain ⟨g5, eg5⟩ : ∃ F : Nat → Nat → Int, F = ii_up g4 40 37 (((P.length : Nat) : Int) + 1) := ⟨_, rfl⟩
            rw [← eg5]
            have hPg5 : tr_I g5 (P ++ [(2 * r + 1)]) := tr_app hP ((by have := lay_b (hPl (by omega)) ((if_neg (by omega)).symm) ((if_pos (by omega)).symm); omega)) (by omega) eg4 eg5
            have hfrg5 : ∀ o2, o2 ≠ 40 → o2 ≠ 75 → g5 o2 = f o2 := fun o2 h h2 => by rw [eg5, ii_up_row _ _ h, eg4, ii_up_row _ _ h2]; exact hfr o2 h h2
            have h40g5 : ∀ i, i ≠ 37 → g5 40 i = f 40 i := fun i h => by rw [eg5, ii_up_k _ _ h, eg4, ii_up_o _ _ _ (by decide)]; exact h40 i h
            refine a_iload C dX10_puts_78 rfl ?_
            refine a_aload_n C dX10_puts_80 rfl ?_
            refine a_get (ci := 11) (i := 11) (v := .ref (ad 51)) C iw_X10 rfl (by decide) rfl fl_X10_40 rfl rfl dX10_puts_81 ?_
            refine a_iload_n C dX10_puts_84 rfl ?_
            refine a_iald (o := 51) (N := 4) b C dX10_puts_85 rfl (by omega) (by omega) (by decide) ?_
            refine a_top (w := ii_v (g5 51 b)) rfl ?_
            refine a_top (w := ii_v ((S.length : Nat) : Int)) (congrArg (fun q => ii_v q) ((congrFun (hfrg5 51 (by decide) (by decide)) _).trans hc)) ?_
            refine a_icmp_ge (tgt := 120) C dX10_puts_86 rfl (by unfold ii_B; omega) (by unfold ii_B; omega) (fun h86 => ?_) (fun h86 => ?_)
            · skip
              refine a_iinc (L' := [(0, .ref (ad 40)), (1, ii_v ((b : Nat) : Int)), (2, ii_v ((r : Nat) : Int)), (3, ii_v ((i : Nat) : Int)), (4, ii_v ((j : Nat) : Int)), (5, ii_v (((k : Nat) : Int) + 1))]) C dX10_puts_120 rfl (by decide) rfl ?_
              refine a_goto (tgt := 8) C dX10_puts_123 rfl ?_
              exact ih8 (k + 1) (P ++ [(2 * r + 1)]) g5 (by omega) (by omega) hPg5 hfrg5 h40g5 (fun h => by omega) ⟨fun h => (by omega), fun _ => (by have e := hE.1 (by omega); rw [List.drop_eq_nil_of_le (by omega)] at e; simp only [lay_f] at e; (first | rw [if_pos (show k = i by omega)] at e | rw [if_neg (show ¬ k = i by omega)] at e); (first | rw [if_pos (show k = j by omega)] at e | rw [if_neg (show ¬ k = j by omega)] at e); simpa using e)⟩
            · skip
              have hlP : ((P ++ [(2 * r + 1)])).length < 8 := (by have := lay_b (hPl (by omega)) ((if_neg (by omega)).symm) ((if_pos (by omega)).symm); simp only [List.length_append, List.length_cons, List.length_nil]; omega)
              have hbk := hb64 k (by omega)
              refine a_aload_n C dX10_puts_89 rfl ?_
              refine a_get (ci := 11) (i := 35) (v := .ref (ad 75)) C iw_X10 rfl (by decide) rfl fl_X10_102 rfl rfl dX10_puts_90 ?_
              refine a_aload_n C dX10_puts_93 rfl ?_
              refine a_get (ci := 11) (i := 37) (v := ii_v (g5 40 37)) C iw_X10 rfl (by decide) rfl fl_X10_144 rfl rfl dX10_puts_94 ?_
              refine a_top (w := ii_v ((((P ++ [(2 * r + 1)])).length : Nat) : Int)) (congrArg (fun q => ii_v q) hPg5.1) ?_
              refine a_aload_n C dX10_puts_97 rfl ?_
              refine a_get (ci := 11) (i := 12) (v := .ref (ad 52)) C iw_X10 rfl (by decide) rfl fl_X10_43 rfl rfl dX10_puts_98 ?_
              refine a_bipush C dX10_puts_101 (by decide) ?_
              refine a_iload_n C dX10_puts_103 rfl ?_
              refine a_imul C dX10_puts_104 ?_
              refine a_iload C dX10_puts_105 rfl ?_
              refine a_iadd C dX10_puts_107 ?_
              refine a_iald (o := 52) (N := 32) ((8 * b) + k) C dX10_puts_108 rfl (by omega) (by omega) (by decide) ?_
              refine a_top (w := ii_v (g5 52 ((8 * b) + k))) rfl ?_
              refine a_top (w := ii_v ((S.getD k 0 : Nat) : Int)) (congrArg (fun q => ii_v q) ((congrFun (hfrg5 52 (by decide) (by decide)) _).trans (hj k (by omega)))) ?_
              refine a_iast (o := 75) (N := 8) (((P ++ [(2 * r + 1)])).length) C dX10_puts_109 rfl (by omega) (by omega) (by decide) ?_
              obtain ⟨g6, eg6⟩ : ∃ F : Nat → Nat → Int, F = ii_up g5 75 (((P ++ [(2 * r + 1)])).length) (((S.getD k 0) : Nat) : Int) := ⟨_, rfl⟩
              rw [← eg6]
              refine a_aload_n C dX10_puts_110 rfl ?_
              refine a_dup C dX10_puts_111 rfl ?_
              refine a_get (ci := 11) (i := 37) (v := ii_v (g6 40 37)) C iw_X10 rfl (by decide) rfl fl_X10_144 rfl rfl dX10_puts_112 ?_
              refine a_top (w := ii_v ((((P ++ [(2 * r + 1)])).length : Nat) : Int)) (congrArg (fun q => ii_v q) (by rw [eg6, ii_up_o _ _ _ (by decide)]; exact hPg5.1)) ?_
              refine a_iconst C dX10_puts_115 ?_
              refine a_iadd C dX10_puts_116 ?_
              refine a_put (ci := 11) (i := 37) C iw_X10 rfl (by decide) rfl tyX10 tyX10_ok nmX10 rfl rfl fl_X10_144 rfl rfl rfl rfl dX10_puts_117 ?_
              obtain ⟨g7, eg7⟩ : ∃ F : Nat → Nat → Int, F = ii_up g6 40 37 (((((P ++ [(2 * r + 1)])).length : Nat) : Int) + 1) := ⟨_, rfl⟩
              rw [← eg7]
              have hPg7 : tr_I g7 ((P ++ [(2 * r + 1)]) ++ [(S.getD k 0)]) := tr_app hPg5 ((by have := lay_b (hPl (by omega)) ((if_neg (by omega)).symm) ((if_pos (by omega)).symm); simp only [List.length_append, List.length_cons, List.length_nil]; omega)) (by omega) eg6 eg7
              have hfrg7 : ∀ o2, o2 ≠ 40 → o2 ≠ 75 → g7 o2 = f o2 := fun o2 h h2 => by rw [eg7, ii_up_row _ _ h, eg6, ii_up_row _ _ h2]; exact hfrg5 o2 h h2
              have h40g7 : ∀ i, i ≠ 37 → g7 40 i = f 40 i := fun i h => by rw [eg7, ii_up_k _ _ h, eg6, ii_up_o _ _ _ (by decide)]; exact h40g5 i h
              refine a_iinc (L' := [(0, .ref (ad 40)), (1, ii_v ((b : Nat) : Int)), (2, ii_v ((r : Nat) : Int)), (3, ii_v ((i : Nat) : Int)), (4, ii_v ((j : Nat) : Int)), (5, ii_v (((k : Nat) : Int) + 1))]) C dX10_puts_120 rfl (by decide) rfl ?_
              refine a_goto (tgt := 8) C dX10_puts_123 rfl ?_
              exact ih8 (k + 1) ((P ++ [(2 * r + 1)]) ++ [(S.getD k 0)]) g7 (by omega) (by omega) hPg7 hfrg7 h40g7 (fun h => lay_len (hPl (by omega)) ((if_neg (by omega)).symm) ((if_pos (by omega)).symm) (by simp)) ⟨fun _ => (by have e := hE.1 (by omega); rw [ls_drop (by omega)] at e; simp only [lay_f] at e; (first | rw [if_pos (show k = i by omega)] at e | rw [if_neg (show ¬ k = i by omega)] at e); (first | rw [if_pos (show k = j by omega)] at e | rw [if_neg (show ¬ k = j by omega)] at e); simpa using e), fun h => (by omega)⟩
        · skip
          have hlP : (P).length < 8 := (by have := lay_b (i := i) (j := j) (hPl (by omega)) rfl rfl; rw [if_pos (show k = i by omega)] at this; omega)
          refine a_aload_n C dX10_puts_25 rfl ?_
          refine a_get (ci := 11) (i := 35) (v := .ref (ad 75)) C iw_X10 rfl (by decide) rfl fl_X10_102 rfl rfl dX10_puts_26 ?_
          refine a_aload_n C dX10_puts_29 rfl ?_
          refine a_get (ci := 11) (i := 37) (v := ii_v (g 40 37)) C iw_X10 rfl (by decide) rfl fl_X10_144 rfl rfl dX10_puts_30 ?_
          refine a_top (w := ii_v ((P.length : Nat) : Int)) (congrArg (fun q => ii_v q) hP.1) ?_
          refine a_iconst C dX10_puts_33 ?_
          refine a_iload_n C dX10_puts_34 rfl ?_
          refine a_imul C dX10_puts_35 ?_
          refine a_iast (o := 75) (N := 8) P.length C dX10_puts_36 rfl (by omega) (by omega) (by decide) ?_
          obtain ⟨g8, eg8⟩ : ∃ F : Nat → Nat → Int, F = ii_up g 75 P.length (2 * ((r : Nat) : Int)) := ⟨_, rfl⟩
          rw [← eg8]
          refine a_aload_n C dX10_puts_37 rfl ?_
          refine a_dup C dX10_puts_38 rfl ?_
          refine a_get (ci := 11) (i := 37) (v := ii_v (g8 40 37)) C iw_X10 rfl (by decide) rfl fl_X10_144 rfl rfl dX10_puts_39 ?_
          refine a_top (w := ii_v ((P.length : Nat) : Int)) (congrArg (fun q => ii_v q) (by rw [eg8, ii_up_o _ _ _ (by decide)]; exact hP.1)) ?_
          refine a_iconst C dX10_puts_42 ?_
          refine a_iadd C dX10_puts_43 ?_
          refine a_put (ci := 11) (i := 37) C iw_X10 rfl (by decide) rfl tyX10 tyX10_ok nmX10 rfl rfl fl_X10_144 rfl rfl rfl rfl dX10_puts_44 ?_
          obtain ⟨g9, eg9⟩ : ∃ F : Nat → Nat → Int, F = ii_up g8 40 37 (((P.length : Nat) : Int) + 1) := ⟨_, rfl⟩
          rw [← eg9]
          have hPg9 : tr_I g9 (P ++ [(2 * r)]) := tr_app hP ((by have := lay_b (i := i) (j := j) (hPl (by omega)) rfl rfl; rw [if_pos (show k = i by omega)] at this; omega)) (by omega) eg8 eg9
          have hfrg9 : ∀ o2, o2 ≠ 40 → o2 ≠ 75 → g9 o2 = f o2 := fun o2 h h2 => by rw [eg9, ii_up_row _ _ h, eg8, ii_up_row _ _ h2]; exact hfr o2 h h2
          have h40g9 : ∀ i, i ≠ 37 → g9 40 i = f 40 i := fun i h => by rw [eg9, ii_up_k _ _ h, eg8, ii_up_o _ _ _ (by decide)]; exact h40 i h
          refine a_iload C dX10_puts_47 rfl ?_
          refine a_iload C dX10_puts_49 rfl ?_
          refine a_icmp_ne (tgt := 78) C dX10_puts_51 rfl (by unfold ii_B; omega) (by unfold ii_B; omega) (fun h51 => ?_) (fun h51 => ?_)
          · skip
            refine a_iload C dX10_puts_78 rfl ?_
            refine a_aload_n C dX10_puts_80 rfl ?_
            refine a_get (ci := 11) (i := 11) (v := .ref (ad 51)) C iw_X10 rfl (by decide) rfl fl_X10_40 rfl rfl dX10_puts_81 ?_
            refine a_iload_n C dX10_puts_84 rfl ?_
            refine a_iald (o := 51) (N := 4) b C dX10_puts_85 rfl (by omega) (by omega) (by decide) ?_
            refine a_top (w := ii_v (g9 51 b)) rfl ?_
            refine a_top (w := ii_v ((S.length : Nat) : Int)) (congrArg (fun q => ii_v q) ((congrFun (hfrg9 51 (by decide) (by decide)) _).trans hc)) ?_
            refine a_icmp_ge (tgt := 120) C dX10_puts_86 rfl (by unfold ii_B; omega) (by unfold ii_B; omega) (fun h86 => ?_) (fun h86 => ?_)
            · skip
              refine a_iinc (L' := [(0, .ref (ad 40)), (1, ii_v ((b : Nat) : Int)), (2, ii_v ((r : Nat) : Int)), (3, ii_v ((i : Nat) : Int)), (4, ii_v ((j : Nat) : Int)), (5, ii_v (((k : Nat) : Int) + 1))]) C dX10_puts_120 rfl (by decide) rfl ?_
              refine a_goto (tgt := 8) C dX10_puts_123 rfl ?_
              exact ih8 (k + 1) (P ++ [(2 * r)]) g9 (by omega) (by omega) hPg9 hfrg9 h40g9 (fun h => by omega) (by exfalso; omega)
            · skip
              have hlP : ((P ++ [(2 * r)])).length < 8 := (by have := lay_b (hPl (by omega)) ((if_pos (by omega)).symm) ((if_neg (by omega)).symm); simp only [List.length_append, List.length_cons, List.length_nil]; omega)
              have hbk := hb64 k (by omega)
              refine a_aload_n C dX10_puts_89 rfl ?_
              refine a_get (ci := 11) (i := 35) (v := .ref (ad 75)) C iw_X10 rfl (by decide) rfl fl_X10_102 rfl rfl dX10_puts_90 ?_
              refine a_aload_n C dX10_puts_93 rfl ?_
              refine a_get (ci := 11) (i := 37) (v := ii_v (g9 40 37)) C iw_X10 rfl (by decide) rfl fl_X10_144 rfl rfl dX10_puts_94 ?_
              refine a_top (w := ii_v ((((P ++ [(2 * r)])).length : Nat) : Int)) (congrArg (fun q => ii_v q) hPg9.1) ?_
              refine a_aload_n C dX10_puts_97 rfl ?_
              refine a_get (ci := 11) (i := 12) (v := .ref (ad 52)) C iw_X10 rfl (by decide) rfl fl_X10_43 rfl rfl dX10_puts_98 ?_
              refine a_bipush C dX10_puts_101 (by decide) ?_
              refine a_iload_n C dX10_puts_103 rfl ?_
              refine a_imul C dX10_puts_104 ?_
              refine a_iload C dX10_puts_105 rfl ?_
              refine a_iadd C dX10_puts_107 ?_
              refine a_iald (o := 52) (N := 32) ((8 * b) + k) C dX10_puts_108 rfl (by omega) (by omega) (by decide) ?_
              refine a_top (w := ii_v (g9 52 ((8 * b) + k))) rfl ?_
              refine a_top (w := ii_v ((S.getD k 0 : Nat) : Int)) (congrArg (fun q => ii_v q) ((congrFun (hfrg9 52 (by decide) (by decide)) _).trans (hj k (by omega)))) ?_
              refine a_iast (o := 75) (N := 8) (((P ++ [(2 * r)])).length) C dX10_puts_109 rfl (by omega) (by omega) (by decide) ?_
              obtain ⟨g10, eg10⟩ : ∃ F : Nat → Nat → Int, F = ii_up g9 75 (((P ++ [(2 * r)])).length) (((S.getD k 0) : Nat) : Int) := ⟨_, rfl⟩
              rw [← eg10]
              refine a_aload_n C dX10_puts_110 rfl ?_
              refine a_dup C dX10_puts_111 rfl ?_
              refine a_get (ci := 11) (i := 37) (v := ii_v (g10 40 37)) C iw_X10 rfl (by decide) rfl fl_X10_144 rfl rfl dX10_puts_112 ?_
              refine a_top (w := ii_v ((((P ++ [(2 * r)])).length : Nat) : Int)) (congrArg (fun q => ii_v q) (by rw [eg10, ii_up_o _ _ _ (by decide)]; exact hPg9.1)) ?_
              refine a_iconst C dX10_puts_115 ?_
              refine a_iadd C dX10_puts_116 ?_
              refine a_put (ci := 11) (i := 37) C iw_X10 rfl (by decide) rfl tyX10 tyX10_ok nmX10 rfl rfl fl_X10_144 rfl rfl rfl rfl dX10_puts_117 ?_
              obtain ⟨g11, eg11⟩ : ∃ F : Nat → Nat → Int, F = ii_up g10 40 37 (((((P ++ [(2 * r)])).length : Nat) : Int) + 1) := ⟨_, rfl⟩
              rw [← eg11]
              have hPg11 : tr_I g11 ((P ++ [(2 * r)]) ++ [(S.getD k 0)]) := tr_app hPg9 ((by have := lay_b (hPl (by omega)) ((if_pos (by omega)).symm) ((if_neg (by omega)).symm); simp only [List.length_append, List.length_cons, List.length_nil]; omega)) (by omega) eg10 eg11
              have hfrg11 : ∀ o2, o2 ≠ 40 → o2 ≠ 75 → g11 o2 = f o2 := fun o2 h h2 => by rw [eg11, ii_up_row _ _ h, eg10, ii_up_row _ _ h2]; exact hfrg9 o2 h h2
              have h40g11 : ∀ i, i ≠ 37 → g11 40 i = f 40 i := fun i h => by rw [eg11, ii_up_k _ _ h, eg10, ii_up_o _ _ _ (by decide)]; exact h40g9 i h
              refine a_iinc (L' := [(0, .ref (ad 40)), (1, ii_v ((b : Nat) : Int)), (2, ii_v ((r : Nat) : Int)), (3, ii_v ((i : Nat) : Int)), (4, ii_v ((j : Nat) : Int)), (5, ii_v (((k : Nat) : Int) + 1))]) C dX10_puts_120 rfl (by decide) rfl ?_
              refine a_goto (tgt := 8) C dX10_puts_123 rfl ?_
              exact ih8 (k + 1) ((P ++ [(2 * r)]) ++ [(S.getD k 0)]) g11 (by omega) (by omega) hPg11 hfrg11 h40g11 (fun h => lay_len (hPl (by omega)) ((if_pos (by omega)).symm) ((if_neg (by omega)).symm) (by simp)) ⟨fun _ => (by have e := hE.1 (by omega); rw [ls_drop (by omega)] at e; simp only [lay_f] at e; (first | rw [if_pos (show k = i by omega)] at e | rw [if_neg (show ¬ k = i by omega)] at e); (first | rw [if_pos (show k = j by omega)] at e | rw [if_neg (show ¬ k = j by omega)] at e); simpa using e), fun h => (by omega)⟩
          · skip
            have hlP : ((P ++ [(2 * r)])).length < 8 := (by have := lay_b (hPl (by omega)) ((if_pos (by omega)).symm) ((if_pos (by omega)).symm); simp only [List.length_append, List.length_cons, List.length_nil]; omega)
            refine a_aload_n C dX10_puts_54 rfl ?_
            refine a_get (ci := 11) (i := 35) (v := .ref (ad 75)) C iw_X10 rfl (by decide) rfl fl_X10_102 rfl rfl dX10_puts_55 ?_
            refine a_aload_n C dX10_puts_58 rfl ?_
            refine a_get (ci := 11) (i := 37) (v := ii_v (g9 40 37)) C iw_X10 rfl (by decide) rfl fl_X10_144 rfl rfl dX10_puts_59 ?_
            refine a_top (w := ii_v ((((P ++ [(2 * r)])).length : Nat) : Int)) (congrArg (fun q => ii_v q) hPg9.1) ?_
            refine a_iconst C dX10_puts_62 ?_
            refine a_iload_n C dX10_puts_63 rfl ?_
            refine a_imul C dX10_puts_64 ?_
            refine a_iconst C dX10_puts_65 ?_
            refine a_iadd C dX10_puts_66 ?_
            refine a_iast (o := 75) (N := 8) (((P ++ [(2 * r)])).length) C dX10_puts_67 rfl (by omega) (by omega) (by decide) ?_
            obtain ⟨g12, eg12⟩ : ∃ F : Nat → Nat → Int, F = ii_up g9 75 (((P ++ [(2 * r)])).length) ((2 * ((r : Nat) : Int)) + 1) := ⟨_, rfl⟩
            rw [← eg12]
            refine a_aload_n C dX10_puts_68 rfl ?_
            refine a_dup C dX10_puts_69 rfl ?_
            refine a_get (ci := 11) (i := 37) (v := ii_v (g12 40 37)) C iw_X10 rfl (by decide) rfl fl_X10_144 rfl rfl dX10_puts_70 ?_
            refine a_top (w := ii_v ((((P ++ [(2 * r)])).length : Nat) : Int)) (congrArg (fun q => ii_v q) (by rw [eg12, ii_up_o _ _ _ (by decide)]; exact hPg9.1)) ?_
            refine a_iconst C dX10_puts_73 ?_
            refine a_iadd C dX10_puts_74 ?_
            refine a_put (ci := 11) (i := 37) C iw_X10 rfl (by decide) rfl tyX10 tyX10_ok nmX10 rfl rfl fl_X10_144 rfl rfl rfl rfl dX10_puts_75 ?_
            obtain ⟨g13, eg13⟩ : ∃ F : Nat → Nat → Int, F = ii_up g12 40 37 (((((P ++ [(2 * r)])).length : Nat) : Int) + 1) := ⟨_, rfl⟩
            rw [← eg13]
            have hPg13 : tr_I g13 ((P ++ [(2 * r)]) ++ [(2 * r + 1)]) := tr_app hPg9 ((by have := lay_b (hPl (by omega)) ((if_pos (by omega)).symm) ((if_pos (by omega)).symm); simp only [List.length_append, List.length_cons, List.length_nil]; omega)) (by omega) eg12 eg13
            have hfrg13 : ∀ o2, o2 ≠ 40 → o2 ≠ 75 → g13 o2 = f o2 := fun o2 h h2 => by rw [eg13, ii_up_row _ _ h, eg12, ii_up_row _ _ h2]; exact hfrg9 o2 h h2
            have h40g13 : ∀ i, i ≠ 37 → g13 40 i = f 40 i := fun i h => by rw [eg13, ii_up_k _ _ h, eg12, ii_up_o _ _ _ (by decide)]; exact h40g9 i h
            refine a_iload C dX10_puts_78 rfl ?_
            refine a_aload_n C dX10_puts_80 rfl ?_
            refine a_get (ci := 11) (i := 11) (v := .ref (ad 51)) C iw_X10 rfl (by decide) rfl fl_X10_40 rfl rfl dX10_puts_81 ?_
            refine a_iload_n C dX10_puts_84 rfl ?_
            refine a_iald (o := 51) (N := 4) b C dX10_puts_85 rfl (by omega) (by omega) (by decide) ?_
            refine a_top (w := ii_v (g13 51 b)) rfl ?_
            refine a_top (w := ii_v ((S.length : Nat) : Int)) (congrArg (fun q => ii_v q) ((congrFun (hfrg13 51 (by decide) (by decide)) _).trans hc)) ?_
            refine a_icmp_ge (tgt := 120) C dX10_puts_86 rfl (by unfold ii_B; omega) (by unfold ii_B; omega) (fun h86 => ?_) (fun h86 => ?_)
            · skip
              refine a_iinc (L' := [(0, .ref (ad 40)), (1, ii_v ((b : Nat) : Int)), (2, ii_v ((r : Nat) : Int)), (3, ii_v ((i : Nat) : Int)), (4, ii_v ((j : Nat) : Int)), (5, ii_v (((k : Nat) : Int) + 1))]) C dX10_puts_120 rfl (by decide) rfl ?_
              refine a_goto (tgt := 8) C dX10_puts_123 rfl ?_
              exact ih8 (k + 1) ((P ++ [(2 * r)]) ++ [(2 * r + 1)]) g13 (by omega) (by omega) hPg13 hfrg13 h40g13 (fun h => by omega) ⟨fun h => (by omega), fun _ => (by have e := hE.1 (by omega); rw [List.drop_eq_nil_of_le (by omega)] at e; simp only [lay_f] at e; (first | rw [if_pos (show k = i by omega)] at e | rw [if_neg (show ¬ k = i by omega)] at e); (first | rw [if_pos (show k = j by omega)] at e | rw [if_neg (show ¬ k = j by omega)] at e); simpa using e)⟩
            · skip
              have hlP : (((P ++ [(2 * r)]) ++ [(2 * r + 1)])).length < 8 := (by have := lay_b (hPl (by omega)) ((if_pos (by omega)).symm) ((if_pos (by omega)).symm); simp only [List.length_append, List.length_cons, List.length_nil]; omega)
              have hbk := hb64 k (by omega)
              refine a_aload_n C dX10_puts_89 rfl ?_
              refine a_get (ci := 11) (i := 35) (v := .ref (ad 75)) C iw_X10 rfl (by decide) rfl fl_X10_102 rfl rfl dX10_puts_90 ?_
              refine a_aload_n C dX10_puts_93 rfl ?_
              refine a_get (ci := 11) (i := 37) (v := ii_v (g13 40 37)) C iw_X10 rfl (by decide) rfl fl_X10_144 rfl rfl dX10_puts_94 ?_
              refine a_top (w := ii_v (((((P ++ [(2 * r)]) ++ [(2 * r + 1)])).length : Nat) : Int)) (congrArg (fun q => ii_v q) hPg13.1) ?_
              refine a_aload_n C dX10_puts_97 rfl ?_
              refine a_get (ci := 11) (i := 12) (v := .ref (ad 52)) C iw_X10 rfl (by decide) rfl fl_X10_43 rfl rfl dX10_puts_98 ?_
              refine a_bipush C dX10_puts_101 (by decide) ?_
              refine a_iload_n C dX10_puts_103 rfl ?_
              refine a_imul C dX10_puts_104 ?_
              refine a_iload C dX10_puts_105 rfl ?_
              refine a_iadd C dX10_puts_107 ?_
              refine a_iald (o := 52) (N := 32) ((8 * b) + k) C dX10_puts_108 rfl (by omega) (by omega) (by decide) ?_
              refine a_top (w := ii_v (g13 52 ((8 * b) + k))) rfl ?_
              refine a_top (w := ii_v ((S.getD k 0 : Nat) : Int)) (congrArg (fun q => ii_v q) ((congrFun (hfrg13 52 (by decide) (by decide)) _).trans (hj k (by omega)))) ?_
              refine a_iast (o := 75) (N := 8) ((((P ++ [(2 * r)]) ++ [(2 * r + 1)])).length) C dX10_puts_109 rfl (by omega) (by omega) (by decide) ?_
              obtain ⟨g14, eg14⟩ : ∃ F : Nat → Nat → Int, F = ii_up g13 75 ((((P ++ [(2 * r)]) ++ [(2 * r + 1)])).length) (((S.getD k 0) : Nat) : Int) := ⟨_, rfl⟩
              rw [← eg14]
              refine a_aload_n C dX10_puts_110 rfl ?_
              refine a_dup C dX10_puts_111 rfl ?_
              refine a_get (ci := 11) (i := 37) (v := ii_v (g14 40 37)) C iw_X10 rfl (by decide) rfl fl_X10_144 rfl rfl dX10_puts_112 ?_
              refine a_top (w := ii_v (((((P ++ [(2 * r)]) ++ [(2 * r + 1)])).length : Nat) : Int)) (congrArg (fun q => ii_v q) (by rw [eg14, ii_up_o _ _ _ (by decide)]; exact hPg13.1)) ?_
              refine a_iconst C dX10_puts_115 ?_
              refine a_iadd C dX10_puts_116 ?_
              refine a_put (ci := 11) (i := 37) C iw_X10 rfl (by decide) rfl tyX10 tyX10_ok nmX10 rfl rfl fl_X10_144 rfl rfl rfl rfl dX10_puts_117 ?_
              obtain ⟨g15, eg15⟩ : ∃ F : Nat → Nat → Int, F = ii_up g14 40 37 ((((((P ++ [(2 * r)]) ++ [(2 * r + 1)])).length : Nat) : Int) + 1) := ⟨_, rfl⟩
              rw [← eg15]
              have hPg15 : tr_I g15 (((P ++ [(2 * r)]) ++ [(2 * r + 1)]) ++ [(S.getD k 0)]) := tr_app hPg13 ((by have := lay_b (hPl (by omega)) ((if_pos (by omega)).symm) ((if_pos (by omega)).symm); simp only [List.length_append, List.length_cons, List.length_nil]; omega)) (by omega) eg14 eg15
              have hfrg15 : ∀ o2, o2 ≠ 40 → o2 ≠ 75 → g15 o2 = f o2 := fun o2 h h2 => by rw [eg15, ii_up_row _ _ h, eg14, ii_up_row _ _ h2]; exact hfrg13 o2 h h2
              have h40g15 : ∀ i, i ≠ 37 → g15 40 i = f 40 i := fun i h => by rw [eg15, ii_up_k _ _ h, eg14, ii_up_o _ _ _ (by decide)]; exact h40g13 i h
              refine a_iinc (L' := [(0, .ref (ad 40)), (1, ii_v ((b : Nat) : Int)), (2, ii_v ((r : Nat) : Int)), (3, ii_v ((i : Nat) : Int)), (4, ii_v ((j : Nat) : Int)), (5, ii_v (((k : Nat) : Int) + 1))]) C dX10_puts_120 rfl (by decide) rfl ?_
              refine a_goto (tgt := 8) C dX10_puts_123 rfl ?_
              exact ih8 (k + 1) (((P ++ [(2 * r)]) ++ [(2 * r + 1)]) ++ [(S.getD k 0)]) g15 (by omega) (by omega) hPg15 hfrg15 h40g15 (fun h => lay_len (hPl (by omega)) ((if_pos (by omega)).symm) ((if_pos (by omega)).symm) (by simp)) ⟨fun _ => (by have e := hE.1 (by omega); rw [ls_drop (by omega)] at e; simp only [lay_f] at e; (first | rw [if_pos (show k = i by omega)] at e | rw [if_neg (show ¬ k = i by omega)] at e); (first | rw [if_pos (show k = j by omega)] at e | rw [if_neg (show ¬ k = j by omega)] at e); simpa using e), fun h => (by omega)⟩
  exact loop8 (_ + 1) 0 ([] : List Nat) g1 (Nat.lt_succ_self _) (Nat.zero_le _) (by rw [eg1]; exact ⟨ii_up_s _ _ _ _, Nat.zero_le _, fun j h => absurd h (Nat.not_lt_zero j), fun j h => absurd h (Nat.not_lt_zero j)⟩) (fun o2 h h2 => by rw [eg1]; exact ii_up_row _ _ h) (fun i h => by rw [eg1]; exact ii_up_k _ _ h) (fun _ => rfl) ⟨fun _ => rfl, fun h => by omega⟩
