/-! Tours: swap, copy, remove, sort, the next order. -/
/-- two stops change their places -/
def sw_L (S : List Nat) (a b : Nat) : List Nat := (S.set a (S.getD b 0)).set b (S.getD a 0)
theorem sw_len (S : List Nat) (a b : Nat) : (sw_L S a b).length = S.length := by simp [sw_L]
theorem sw_gd {S : List Nat} {a b : Nat} (ha : a < S.length) (hb : b < S.length) (j : Nat) : (sw_L S a b).getD j 0 = if j = b then S.getD a 0 else if j = a then S.getD b 0 else S.getD j 0 := by
  unfold sw_L
  rw [gd_set (by simpa using hb), gd_set ha]
theorem ts_swap {f : Nat → Nat → Int} {t a b : Nat} {S : List Nat} (h : ts_I f t S) (ha : a < S.length) (hb2 : b < S.length) : ts_I (ii_up (ii_up f (t + 10) a ((S.getD b 0 : Nat) : Int)) (t + 10) b ((S.getD a 0 : Nat) : Int)) t (sw_L S a b) := by
  obtain ⟨hc, h8, hj, hb⟩ := h
  refine ⟨?_, ?_, fun j hlt => ?_, fun j hlt => ?_⟩
  · rw [ii_up_o _ _ _ (by omega), ii_up_o _ _ _ (by omega), sw_len, hc]
  · rw [sw_len]; exact h8
  · rw [sw_len] at hlt
    rw [sw_gd ha hb2]
    by_cases q : j = b
    · subst q
      rw [ii_up_s, if_pos rfl]
    · rw [ii_up_k _ _ q, if_neg q]
      by_cases r : j = a
      · subst r
        rw [ii_up_s, if_pos rfl]
      · rw [ii_up_k _ _ r, if_neg r, hj j hlt]
  · rw [sw_len] at hlt
    rw [sw_gd ha hb2]
    split
    · exact hb a ha
    · split
      · exact hb b hb2
      · exact hb j hlt
theorem ls_take {S : List Nat} {k : Nat} (hk : k < S.length) : S.take (k + 1) = S.take k ++ [S.getD k 0] := by
  rw [List.take_succ, List.getElem?_eq_getElem hk, gd_eq hk]
  rfl
theorem er_gd {S : List Nat} {v : Nat} (h : v ∈ S) : (S.erase v).length = S.length - 1 ∧ ∀ j, (S.erase v).getD j 0 = if j < S.idxOf v then S.getD j 0 else S.getD (j + 1) 0 := by
  refine ⟨List.length_erase_of_mem h, fun j => ?_⟩
  rw [List.erase_eq_eraseIdx_of_idxOf rfl, List.getD_eq_getElem?_getD, List.getElem?_eraseIdx]
  split
  · rw [List.getD_eq_getElem?_getD]
  · rw [List.getD_eq_getElem?_getD]
set_option maxRecDepth 20000 in
set_option maxHeartbeats 2000000 in
theorem c_swap {l : Launch} {E : ab_E} {base : Nat} (hl : l.stackTraces = false) {ad : Nat → Nat} (f : Nat → Nat → Int) (w : Nat × Nat × Int64 × UInt64) {t : Nat} (ht : ab_ob 4 w.1 w.2.1 t = some (8, [some (t + 10), none])) (hta : ab_ar 4 w.1 (t + 10) = some (0, 8)) {S : List Nat} (hS : ts_I f t S) (i j : Int) (a b : Nat) (hi : i = (a : Int)) (hj2 : j = (b : Int)) (ha : a < S.length) (hb2 : b < S.length) : ab_M l E base yX7_swap cX7_swap 4 none 2 0 0 [.ref (ad t), ii_v i, ii_v j] ab_x4 ad (f, w) (ab_F ad w (fun r g => r = none ∧ ts_I g t (sw_L S a b) ∧ ∀ o, o ≠ t + 10 → g o = f o)) := by
  obtain ⟨Post, hPost⟩ : ∃ P : ab_P, P = (ab_F ad w (fun r g => r = none ∧ ts_I g t (sw_L S a b) ∧ ∀ o, o ≠ t + 10 → g o = f o)) := ⟨_, rfl⟩
  rw [← hPost]
  refine ab_of RX7 [(0, .ref (ad t)), (1, ii_v i), (2, ii_v j)] hl (by decide) rfl (Nat.le_of_ble_eq_true rfl) rfl ?_
  intro p e s m args below meth c C T0 hnm
  obtain ⟨hc, h8, hj, hb⟩ := id hS
  refine a_aload_n C dX7_swap_0 rfl ?_
  refine a_iload_n C dX7_swap_1 rfl ?_
  refine a_callV (o := t) (As := [ii_v i]) C (c_stopAtS hl f w ht hta hS i a (by omega) (by omega)) co_X7_stopAt in_X7 ml_X7_19 im_X7_stopAt se_X7_stopAt rfl ht ar_X7_stopAt ⟨by decide, by decide, by decide, by decide⟩ rfl (Nat.le_of_ble_eq_true rfl) dX7_swap_2 (a_dR ?_) a_nR
  refine a_istore_n (L' := [(0, .ref (ad t)), (1, ii_v i), (2, ii_v j), (3, ii_v (((S.getD a 0) : Nat) : Int))]) C dX7_swap_5 (by decide) rfl ?_
  refine a_aload_n C dX7_swap_6 rfl ?_
  refine a_iload_n C dX7_swap_7 rfl ?_
  refine a_aload_n C dX7_swap_8 rfl ?_
  refine a_iload_n C dX7_swap_9 rfl ?_
  refine a_callV (o := t) (As := [ii_v j]) C (c_stopAtS hl f w ht hta hS j b (by omega) (by omega)) co_X7_stopAt in_X7 ml_X7_19 im_X7_stopAt se_X7_stopAt rfl ht ar_X7_stopAt ⟨by decide, by decide, by decide, by decide⟩ rfl (Nat.le_of_ble_eq_true rfl) dX7_swap_10 (a_dR ?_) a_nR
  refine a_callV (o := t) (As := [ii_v i, ii_v (((S.getD b 0) : Nat) : Int)]) C (c_set hl f w ht hta i (((S.getD b 0) : Nat) : Int) a (by omega) (by omega)) co_X7_set in_X7 ml_X7_23 im_X7_set se_X7_set rfl ht ar_X7_set ⟨by decide, by decide, by decide, by decide⟩ rfl (Nat.le_of_ble_eq_true rfl) dX7_swap_13 (a_dV ?_) a_nV
  obtain ⟨g1, eg1⟩ : ∃ F : Nat → Nat → Int, F = ii_up f (t + 10) a (((S.getD b 0) : Nat) : Int) := ⟨_, rfl⟩
  rw [← eg1]
  refine a_aload_n C dX7_swap_16 rfl ?_
  refine a_iload_n C dX7_swap_17 rfl ?_
  refine a_iload_n C dX7_swap_18 rfl ?_
  refine a_callV (o := t) (As := [ii_v j, ii_v (((S.getD a 0) : Nat) : Int)]) C (c_set hl g1 w ht hta j (((S.getD a 0) : Nat) : Int) b (by omega) (by omega)) co_X7_set in_X7 ml_X7_23 im_X7_set se_X7_set rfl ht ar_X7_set ⟨by decide, by decide, by decide, by decide⟩ rfl (Nat.le_of_ble_eq_true rfl) dX7_swap_19 (a_dV ?_) a_nV
  obtain ⟨g2, eg2⟩ : ∃ F : Nat → Nat → Int, F = ii_up g1 (t + 10) b (((S.getD a 0) : Nat) : Int) := ⟨_, rfl⟩
  rw [← eg2]
  refine a_vret C ?_ (by decide) (by decide) dX7_swap_22
  rw [hPost]
  subst eg2
  subst eg1
  refine ab_F_of ⟨rfl, ts_swap hS ha hb2, ?_⟩
  intro o h1
  rw [ii_up_row _ _ h1, ii_up_row _ _ h1]
set_option maxRecDepth 20000 in
set_option maxHeartbeats 2000000 in
theorem c_copyFrom {l : Launch} {E : ab_E} {base : Nat} (hl : l.stackTraces = false) {ad : Nat → Nat} (f : Nat → Nat → Int) (w : Nat × Nat × Int64 × UInt64) {t : Nat} (ht : ab_ob 4 w.1 w.2.1 t = some (8, [some (t + 10), none])) (hta : ab_ar 4 w.1 (t + 10) = some (0, 8)) {t2 : Nat} (ht2 : ab_ob 4 w.1 w.2.1 t2 = some (8, [some (t2 + 10), none])) (hta2 : ab_ar 4 w.1 (t2 + 10) = some (0, 8)) {S : List Nat} (hS : ts_I f t2 S) (hne : t2 ≠ t ∧ t2 ≠ t + 10 ∧ t2 + 10 ≠ t ∧ t2 + 10 ≠ t + 10)  : ab_M l E base yX7_copyFrom cX7_copyFrom 3 none 3 0 0 [.ref (ad t), .ref (ad t2)] ab_x4 ad (f, w) (ab_F ad w (fun r g => r = none ∧ ts_I g t S ∧ ∀ o, o ≠ t → o ≠ t + 10 → g o = f o)) := by
  obtain ⟨Post, hPost⟩ : ∃ P : ab_P, P = (ab_F ad w (fun r g => r = none ∧ ts_I g t S ∧ ∀ o, o ≠ t → o ≠ t + 10 → g o = f o)) := ⟨_, rfl⟩
  rw [← hPost]
  refine ab_of RX7 [(0, .ref (ad t)), (1, .ref (ad t2))] hl (by decide) rfl (Nat.le_of_ble_eq_true rfl) rfl ?_
  intro p e s m args below meth c C T0 hnm
  obtain ⟨hc, h8, hj, hb⟩ := id hS
  refine a_aload_n C dX7_copyFrom_0 rfl ?_
  refine a_iconst C dX7_copyFrom_1 ?_
  refine a_put (ci := 8) (i := 1) C iw_X7 rfl (by decide) rfl tyX7 tyX7_ok nmX7 rfl rfl fl_X7_15 ht rfl rfl rfl dX7_copyFrom_2 ?_
  obtain ⟨g1, eg1⟩ : ∃ F : Nat → Nat → Int, F = ii_up f t 1 0 := ⟨_, rfl⟩
  rw [← eg1]
  refine a_iconst C dX7_copyFrom_5 ?_
  refine a_istore_n (L' := [(0, .ref (ad t)), (1, .ref (ad t2)), (2, ii_v 0)]) C dX7_copyFrom_6 (by decide) rfl ?_
  have loop7 : ∀ (NN7 : Nat) (k : Nat) (g : Nat → Nat → Int), S.length - k < NN7 → (k ≤ S.length) → (ts_I g t (S.take k)) → (∀ o, o ≠ t → o ≠ t + 10 → g o = f o) → ab_W p l e (ab_rm 3 0 0) s m args below meth c E base 3 (ab_Q below E base Post args s 0 0) ab_x4 ad (g, w) 0 0 7 [(0, .ref (ad t)), (1, .ref (ad t2)), (2, ii_v ((k : Nat) : Int))] [] := by
    intro NN7
    induction NN7 with
    | zero => intro k g hNN; exact absurd hNN (Nat.not_lt_zero _)
    | succ NN7 ih7 =>
      intro k g hNN hk hgS hfr
      refine a_iload_n C dX7_copyFrom_7 rfl ?_
      refine a_aload_n C dX7_copyFrom_8 rfl ?_
      refine a_get (ci := 8) (i := 1) (v := ii_v (g t2 1)) C iw_X7 rfl (by decide) rfl fl_X7_15 ht2 rfl dX7_copyFrom_9 ?_
      rw [hfr t2 hne.1 hne.2.1]
      refine a_icmp_ge (tgt := 30) C dX7_copyFrom_12 rfl (by unfold ii_B; omega) (by unfold ii_B; omega) (fun h12 => ?_) (fun h12 => ?_)
      · skip
        refine a_vret C ?_ (by decide) (by decide) dX7_copyFrom_30
        rw [hPost]
        refine ab_F_of ⟨rfl, ?_, hfr⟩
        rw [List.take_of_length_le (by omega)] at hgS
        exact hgS
      · skip
        refine a_aload_n C dX7_copyFrom_15 rfl ?_
        refine a_aload_n C dX7_copyFrom_16 rfl ?_
        refine a_iload_n C dX7_copyFrom_17 rfl ?_
        refine a_callV (o := t2) (As := [ii_v ((k : Nat) : Int)]) C (c_stopAtS hl g w ht2 hta2 (ts_same hS (hfr _ hne.1 hne.2.1) (hfr _ hne.2.2.1 hne.2.2.2)) ((k : Nat) : Int) k (by omega) (by omega)) co_X7_stopAt in_X7 ml_X7_19 im_X7_stopAt se_X7_stopAt rfl ht2 ar_X7_stopAt ⟨by decide, by decide, by decide, by decide⟩ rfl (Nat.le_of_ble_eq_true rfl) dX7_copyFrom_18 (a_dR ?_) a_nR
        refine a_callV (o := t) (As := [ii_v (((S.getD k 0) : Nat) : Int)]) C (c_add hl g w ht hta hgS (by rw [List.length_take]; omega) (S.getD k 0) (hb k (by omega))) co_X7_add in_X7 ml_X7_30 im_X7_add se_X7_add rfl ht ar_X7_add ⟨by decide, by decide, by decide, by decide⟩ rfl (Nat.le_of_ble_eq_true rfl) dX7_copyFrom_21 (a_dF ?_) a_nF
        intro vg2 g2 hvg2
        obtain ⟨rfl, hsg2, hfg2⟩ := hvg2
        refine a_iinc (L' := [(0, .ref (ad t)), (1, .ref (ad t2)), (2, ii_v (((k : Nat) : Int) + 1))]) C dX7_copyFrom_24 rfl (by decide) rfl ?_
        refine a_goto (tgt := 7) C dX7_copyFrom_27 rfl ?_
        exact ih7 (k + 1) g2 (by omega) (by omega) (by rw [ls_take (by omega)]; exact hsg2) (fun o h1 h2 => (hfg2 o h1 h2).trans (hfr o h1 h2))
  exact loop7 (_ + 1) 0 g1 (Nat.lt_succ_self _) (Nat.zero_le _) (by rw [eg1]; exact ⟨ii_up_s _ _ _ _, Nat.zero_le _, fun j h => absurd h (Nat.not_lt_zero j), fun j h => absurd h (Nat.not_lt_zero j)⟩) (fun o h1 h2 => by rw [eg1]; exact ii_up_row _ _ h1)
set_option maxRecDepth 20000 in
set_option maxHeartbeats 2000000 in
theorem c_removeStop {l : Launch} {E : ab_E} {base : Nat} (hl : l.stackTraces = false) {ad : Nat → Nat} (f : Nat → Nat → Int) (w : Nat × Nat × Int64 × UInt64) {t : Nat} (ht : ab_ob 4 w.1 w.2.1 t = some (8, [some (t + 10), none])) (hta : ab_ar 4 w.1 (t + 10) = some (0, 8)) {S : List Nat} (hS : ts_I f t S) (v : Nat) (hv : v < 64) : ab_M l E base yX7_removeStop cX7_removeStop 4 none 3 0 0 [.ref (ad t), ii_v ((v : Nat) : Int)] ab_x4 ad (f, w) (ab_F ad w (fun r g => r = none ∧ ts_I g t (S.erase v) ∧ ∀ o, o ≠ t → o ≠ t + 10 → g o = f o)) := by
  obtain ⟨Post, hPost⟩ : ∃ P : ab_P, P = (ab_F ad w (fun r g => r = none ∧ ts_I g t (S.erase v) ∧ ∀ o, o ≠ t → o ≠ t + 10 → g o = f o)) := ⟨_, rfl⟩
  rw [← hPost]
  refine ab_of RX7 [(0, .ref (ad t)), (1, ii_v ((v : Nat) : Int))] hl (by decide) rfl (Nat.le_of_ble_eq_true rfl) rfl ?_
  intro p e s m args below meth c C T0 hnm
  obtain ⟨hc, h8, hj, hb⟩ := id hS
  refine a_aload_n C dX7_removeStop_0 rfl ?_
  refine a_iload_n C dX7_removeStop_1 rfl ?_
  refine a_callV (o := t) (As := [ii_v ((v : Nat) : Int)]) C (c_indexOf hl f w ht hta hS v hv) co_X7_indexOf in_X7 ml_X7_27 im_X7_indexOf se_X7_indexOf rfl ht ar_X7_indexOf ⟨by decide, by decide, by decide, by decide⟩ rfl (Nat.le_of_ble_eq_true rfl) dX7_removeStop_2 (a_dR ?_) a_nR
  refine a_istore_n (L' := [(0, .ref (ad t)), (1, ii_v ((v : Nat) : Int)), (2, ii_v (if v ∈ S then (S.idxOf v : Int) else -1))]) C dX7_removeStop_5 (by decide) rfl ?_
  have hil : S.idxOf v ≤ S.length := List.idxOf_le_length
  refine a_iload_n C dX7_removeStop_6 rfl ?_
  refine a_if_ge (tgt := 11) C dX7_removeStop_7 rfl (by unfold ii_B; split <;> omega) (fun h7 => ?_) (fun h7 => ?_)
  · skip
    have hm : v ∈ S := Classical.byContradiction fun q => by rw [if_neg q] at h7; omega
    rw [if_pos hm]
    obtain ⟨hi1, hi2⟩ := gd_idx (d := 0) hm
    obtain ⟨he1, he2⟩ := er_gd hm
    refine a_iload_n C dX7_removeStop_11 rfl ?_
    refine a_istore_n (L' := [(0, .ref (ad t)), (1, ii_v ((v : Nat) : Int)), (2, ii_v (S.idxOf v : Int)), (3, ii_v (S.idxOf v : Int))]) C dX7_removeStop_12 (by decide) rfl ?_
    have loop13 : ∀ (NN13 : Nat) (k : Nat) (g : Nat → Nat → Int), S.length - k < NN13 → (S.idxOf v ≤ k) → (k < S.length) → (g t 1 = (S.length : Int)) → (∀ j, j < k → g (t + 10) j = (((S.erase v).getD j 0 : Nat) : Int)) → (∀ j, k ≤ j → j < S.length → g (t + 10) j = ((S.getD j 0 : Nat) : Int)) → (∀ o, o ≠ t → o ≠ t + 10 → g o = f o) → ab_W p l e (ab_rm 3 0 0) s m args below meth c E base 4 (ab_Q below E base Post args s 0 0) ab_x4 ad (g, w) 0 0 13 [(0, .ref (ad t)), (1, ii_v ((v : Nat) : Int)), (2, ii_v (S.idxOf v : Int)), (3, ii_v ((k : Nat) : Int))] [] := by
      intro NN13
      induction NN13 with
      | zero => intro k g hNN; exact absurd hNN (Nat.not_lt_zero _)
      | succ NN13 ih13 =>
        intro k g hNN hk hk2 hgc hg1 hg2 hfr
        refine a_iload_n C dX7_removeStop_13 rfl ?_
        refine a_iconst C dX7_removeStop_14 ?_
        refine a_iadd C dX7_removeStop_15 ?_
        refine a_aload_n C dX7_removeStop_16 rfl ?_
        refine a_get (ci := 8) (i := 1) (v := ii_v (g t 1)) C iw_X7 rfl (by decide) rfl fl_X7_15 ht rfl dX7_removeStop_17 ?_
        refine a_icmp_ge (tgt := 41) C dX7_removeStop_20 rfl (by unfold ii_B; omega) (by unfold ii_B; omega) (fun h20 => ?_) (fun h20 => ?_)
        · skip
          refine a_aload_n C dX7_removeStop_41 rfl ?_
          refine a_dup C dX7_removeStop_42 rfl ?_
          refine a_get (ci := 8) (i := 1) (v := ii_v (g t 1)) C iw_X7 rfl (by decide) rfl fl_X7_15 ht rfl dX7_removeStop_43 ?_
          refine a_iconst C dX7_removeStop_46 ?_
          refine a_isub C dX7_removeStop_47 ?_
          refine a_put (ci := 8) (i := 1) C iw_X7 rfl (by decide) rfl tyX7 tyX7_ok nmX7 rfl rfl fl_X7_15 ht rfl rfl rfl dX7_removeStop_48 ?_
          obtain ⟨g1, eg1⟩ : ∃ F : Nat → Nat → Int, F = ii_up g t 1 ((g t 1) - 1) := ⟨_, rfl⟩
          rw [← eg1]
          refine a_vret C ?_ (by decide) (by decide) dX7_removeStop_51
          rw [hPost]
          rw [hgc] at eg1
          subst eg1
          refine ab_F_of ⟨rfl, ⟨?_, ?_, ?_, ?_⟩, ?_⟩
          · rw [ii_up_s, he1]
            omega
          · omega
          · intro j h
            rw [ii_up_o _ _ _ (by omega)]
            exact hg1 j (by omega)
          · intro j h
            rw [he2 j]
            split
            · exact hb j (by omega)
            · exact hb (j + 1) (by omega)
          · intro o h1 h2
            rw [ii_up_row _ _ h1]
            exact hfr o h1 h2
        · skip
          refine a_aload_n C dX7_removeStop_23 rfl ?_
          refine a_iload_n C dX7_removeStop_24 rfl ?_
          refine a_aload_n C dX7_removeStop_25 rfl ?_
          refine a_iload_n C dX7_removeStop_26 rfl ?_
          refine a_iconst C dX7_removeStop_27 ?_
          refine a_iadd C dX7_removeStop_28 ?_
          refine a_callV (o := t) (As := [ii_v (((k : Nat) : Int) + 1)]) C (c_stopAt hl g w ht hta S.length hgc h8 (((k : Nat) : Int) + 1) (k + 1) (by omega) (by omega)) co_X7_stopAt in_X7 ml_X7_19 im_X7_stopAt se_X7_stopAt rfl ht ar_X7_stopAt ⟨by decide, by decide, by decide, by decide⟩ rfl (Nat.le_of_ble_eq_true rfl) dX7_removeStop_29 (a_dR ?_) a_nR
          refine a_callV (o := t) (As := [ii_v ((k : Nat) : Int), ii_v (g (t + 10) (k + 1))]) C (c_set hl g w ht hta ((k : Nat) : Int) (g (t + 10) (k + 1)) k (by omega) (by omega)) co_X7_set in_X7 ml_X7_23 im_X7_set se_X7_set rfl ht ar_X7_set ⟨by decide, by decide, by decide, by decide⟩ rfl (Nat.le_of_ble_eq_true rfl) dX7_removeStop_32 (a_dV ?_) a_nV
          obtain ⟨g2, eg2⟩ : ∃ F : Nat → Nat → Int, F = ii_up g (t + 10) k (g (t + 10) (k + 1)) := ⟨_, rfl⟩
          rw [← eg2]
          refine a_iinc (L' := [(0, .ref (ad t)), (1, ii_v ((v : Nat) : Int)), (2, ii_v (S.idxOf v : Int)), (3, ii_v (((k : Nat) : Int) + 1))]) C dX7_removeStop_35 rfl (by decide) rfl ?_
          refine a_goto (tgt := 13) C dX7_removeStop_38 rfl ?_
          exact ih13 (k + 1) g2 (by omega) (by omega) (by omega) (by rw [eg2, ii_up_o _ _ _ (by omega)]; exact hgc) (by rw [eg2]; exact lt_s (fun j h => by rw [ii_up_k _ _ (by omega)]; exact hg1 j h) (by rw [ii_up_s, hg2 (k + 1) (by omega) (by omega), he2 k, if_neg (by omega)])) (fun j h1 h2 => by rw [eg2, ii_up_k _ _ (by omega)]; exact hg2 j (by omega) h2) (fun o h1 h2 => by rw [eg2, ii_up_row _ _ h2]; exact hfr o h1 h2)
    exact loop13 (_ + 1) (S.idxOf v) f (Nat.lt_succ_self _) (Nat.le_refl _) hi1 hc (fun j h => by rw [hj j (by omega), he2 j, if_pos h]) (fun j h1 h2 => hj j h2) (fun o _ _ => rfl)
  · skip
    have hm : v ∉ S := fun q => h7 (by rw [if_pos q]; omega)
    refine a_vret C ?_ (by decide) (by decide) dX7_removeStop_10
    rw [hPost]
    exact ab_F_of ⟨rfl, by rw [List.erase_of_not_mem hm]; exact hS, fun _ _ _ => rfl⟩
