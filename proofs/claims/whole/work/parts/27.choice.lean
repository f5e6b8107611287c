/-! Choice: the plans. -/
theorem lay_len {k i j n m a b : Nat} (hn : n = k + (if i < k then 1 else 0) + (if j < k then 1 else 0)) (ha : a = if k = i then 1 else 0) (hb : b = if k = j then 1 else 0) (hm : m = n + a + b + 1) : m = (k + 1) + (if i < k + 1 then 1 else 0) + (if j < k + 1 then 1 else 0) := by
  subst hn ha hb hm
  repeat' split
  all_goals omega
theorem lay_b {k i j n a b : Nat} (hn : n = k + (if i < k then 1 else 0) + (if j < k then 1 else 0)) (ha : a = if k = i then 1 else 0) (hb : b = if k = j then 1 else 0) : n + a + b ≤ k + 2 := by
  subst hn ha hb
  repeat' split
  all_goals omega
/-- the stops of the plan that puts the pickup of r ahead of the stop i, the drop ahead of the stop j; k is the place of the list's head -/
def lay_f (r i j : Nat) : List Nat → Nat → List Nat
  | [], k => (if k = i then [2 * r] else []) ++ (if k = j then [2 * r + 1] else [])
  | q :: S, k => (if k = i then [2 * r] else []) ++ (if k = j then [2 * r + 1] else []) ++ q :: lay_f r i j S (k + 1)
set_option maxRecDepth 20000 in
set_option maxHeartbeats 2000000 in
theorem c_forget {l : Launch} {E : ab_E} {base : Nat} (hl : l.stackTraces = false) {ad : Nat → Nat} (f : Nat → Nat → Int) (w : Nat × Nat × Int64 × UInt64)  : ab_M l E base yX2_forget cX2_forget 1 none 1 0 0 [.ref (ad 13)] ab_x4 ad (f, w) (ab_V ab_x4 ad (ii_up (ii_up (ii_up f 13 3 (-1)) 13 6 1000000) 13 7 1, w)) := by
  obtain ⟨Post, hPost⟩ : ∃ P : ab_P, P = (ab_V ab_x4 ad (ii_up (ii_up (ii_up f 13 3 (-1)) 13 6 1000000) 13 7 1, w)) := ⟨_, rfl⟩
  rw [← hPost]
  refine ab_of RX2 [(0, .ref (ad 13))] hl (by decide) rfl (Nat.le_of_ble_eq_true rfl) rfl ?_
  intro p e s m args below meth c C T0 hnm
  refine a_aload_n C dX2_forget_0 rfl ?_
  refine a_iconst C dX2_forget_1 ?_
  refine a_put (ci := 3) (i := 3) C iw_X2 rfl (by decide) rfl tyX2 tyX2_ok nmX2 rfl rfl fl_X2_26 rfl rfl rfl rfl dX2_forget_2 ?_
  obtain ⟨g1, eg1⟩ : ∃ F : Nat → Nat → Int, F = ii_up f 13 3 (-1) := ⟨_, rfl⟩
  rw [← eg1]
  refine a_aload_n C dX2_forget_5 rfl ?_
  refine a_ldc (v := 1000000) C dX2_forget_6 kt_X2_85 ?_
  refine a_put (ci := 3) (i := 6) C iw_X2 rfl (by decide) rfl tyX2 tyX2_ok nmX2 rfl rfl fl_X2_74 rfl rfl rfl rfl dX2_forget_8 ?_
  obtain ⟨g2, eg2⟩ : ∃ F : Nat → Nat → Int, F = ii_up g1 13 6 1000000 := ⟨_, rfl⟩
  rw [← eg2]
  refine a_aload_n C dX2_forget_11 rfl ?_
  refine a_iconst C dX2_forget_12 ?_
  refine a_put (ci := 3) (i := 7) C iw_X2 rfl (by decide) rfl tyX2 tyX2_ok nmX2 rfl rfl fl_X2_65 rfl rfl rfl rfl dX2_forget_13 ?_
  obtain ⟨g3, eg3⟩ : ∃ F : Nat → Nat → Int, F = ii_up g2 13 7 1 := ⟨_, rfl⟩
  rw [← eg3]
  refine a_vret C ?_ (by decide) (by decide) dX2_forget_16
  rw [hPost]
  subst eg3 eg2 eg1
  exact ⟨rfl, rfl, rfl, rfl⟩
set_option maxRecDepth 20000 in
set_option maxHeartbeats 2000000 in
theorem c_keep {l : Launch} {E : ab_E} {base : Nat} (hl : l.stackTraces = false) {ad : Nat → Nat} (f : Nat → Nat → Int) (w : Nat × Nat × Int64 × UInt64) (b i j a : Int) : ab_M l E base yX2_keep cX2_keep 5 none 1 0 0 [.ref (ad 13), ii_v b, ii_v i, ii_v j, ii_v a] ab_x4 ad (f, w) (ab_V ab_x4 ad (ii_up (ii_up (ii_up (ii_up f 13 3 b) 13 4 i) 13 5 j) 13 6 a, w)) := by
  obtain ⟨Post, hPost⟩ : ∃ P : ab_P, P = (ab_V ab_x4 ad (ii_up (ii_up (ii_up (ii_up f 13 3 b) 13 4 i) 13 5 j) 13 6 a, w)) := ⟨_, rfl⟩
  rw [← hPost]
  refine ab_of RX2 [(0, .ref (ad 13)), (1, ii_v b), (2, ii_v i), (3, ii_v j), (4, ii_v a)] hl (by decide) rfl (Nat.le_of_ble_eq_true rfl) rfl ?_
  intro p e s m args below meth c C T0 hnm
  refine a_aload_n C dX2_keep_0 rfl ?_
  refine a_iload_n C dX2_keep_1 rfl ?_
  refine a_put (ci := 3) (i := 3) C iw_X2 rfl (by decide) rfl tyX2 tyX2_ok nmX2 rfl rfl fl_X2_26 rfl rfl rfl rfl dX2_keep_2 ?_
  obtain ⟨g1, eg1⟩ : ∃ F : Nat → Nat → Int, F = ii_up f 13 3 b := ⟨_, rfl⟩
  rw [← eg1]
  refine a_aload_n C dX2_keep_5 rfl ?_
  refine a_iload_n C dX2_keep_6 rfl ?_
  refine a_put (ci := 3) (i := 4) C iw_X2 rfl (by decide) rfl tyX2 tyX2_ok nmX2 rfl rfl fl_X2_95 rfl rfl rfl rfl dX2_keep_7 ?_
  obtain ⟨g2, eg2⟩ : ∃ F : Nat → Nat → Int, F = ii_up g1 13 4 i := ⟨_, rfl⟩
  rw [← eg2]
  refine a_aload_n C dX2_keep_10 rfl ?_
  refine a_iload_n C dX2_keep_11 rfl ?_
  refine a_put (ci := 3) (i := 5) C iw_X2 rfl (by decide) rfl tyX2 tyX2_ok nmX2 rfl rfl fl_X2_98 rfl rfl rfl rfl dX2_keep_12 ?_
  obtain ⟨g3, eg3⟩ : ∃ F : Nat → Nat → Int, F = ii_up g2 13 5 j := ⟨_, rfl⟩
  rw [← eg3]
  refine a_aload_n C dX2_keep_15 rfl ?_
  refine a_iload C dX2_keep_16 rfl ?_
  refine a_put (ci := 3) (i := 6) C iw_X2 rfl (by decide) rfl tyX2 tyX2_ok nmX2 rfl rfl fl_X2_74 rfl rfl rfl rfl dX2_keep_18 ?_
  obtain ⟨g4, eg4⟩ : ∃ F : Nat → Nat → Int, F = ii_up g3 13 6 a := ⟨_, rfl⟩
  rw [← eg4]
  refine a_vret C ?_ (by decide) (by decide) dX2_keep_21
  rw [hPost]
  subst eg4 eg3 eg2 eg1
  exact ⟨rfl, rfl, rfl, rfl⟩
set_option maxRecDepth 20000 in
set_option maxHeartbeats 2000000 in
theorem c_isFound {l : Launch} {E : ab_E} {base : Nat} (hl : l.stackTraces = false) {ad : Nat → Nat} (f : Nat → Nat → Int) (w : Nat × Nat × Int64 × UInt64) (hb : -10 ≤ f 13 3 ∧ f 13 3 ≤ 10) : ab_M l E base yX2_isFound cX2_isFound 1 (some .boolean) 1 0 0 [.ref (ad 13)] ab_x4 ad (f, w) (ab_R (ii_v (if 0 ≤ f 13 3 then 1 else 0)) ab_x4 ad (f, w)) := by
  obtain ⟨Post, hPost⟩ : ∃ P : ab_P, P = (ab_R (ii_v (if 0 ≤ f 13 3 then 1 else 0)) ab_x4 ad (f, w)) := ⟨_, rfl⟩
  rw [← hPost]
  refine ab_of RX2 [(0, .ref (ad 13))] hl (by decide) rfl (Nat.le_of_ble_eq_true rfl) rfl ?_
  intro p e s m args below meth c C T0 hnm
  refine a_aload_n C dX2_isFound_0 rfl ?_
  refine a_get (ci := 3) (i := 3) (v := ii_v (f 13 3)) C iw_X2 rfl (by decide) rfl fl_X2_26 rfl rfl dX2_isFound_1 ?_
  refine a_if_lt (tgt := 11) C dX2_isFound_4 rfl (by unfold ii_B; omega) (fun h4 => ?_) (fun h4 => ?_)
  · skip
    refine a_iconst C dX2_isFound_11 ?_
    refine a_zret C (by decide) ?_ (by decide) (by decide) dX2_isFound_12
    rw [hPost]
    exact ⟨by first | exact rt_1 (by omega) | exact rt_0 (by omega), rfl, rfl, rfl⟩
  · skip
    refine a_iconst C dX2_isFound_7 ?_
    refine a_goto (tgt := 12) C dX2_isFound_8 rfl ?_
    refine a_zret C (by decide) ?_ (by decide) (by decide) dX2_isFound_12
    rw [hPost]
    exact ⟨by first | exact rt_1 (by omega) | exact rt_0 (by omega), rfl, rfl, rfl⟩
set_option maxRecDepth 20000 in
set_option maxHeartbeats 2000000 in
theorem c_lay {l : Launch} {E : ab_E} {base : Nat} (hl : l.stackTraces = false) {ad : Nat → Nat} (f : Nat → Nat → Int) (w : Nat × Nat × Int64 × UInt64) {t : Nat} (ht : ab_ob 4 w.1 w.2.1 t = some (8, [some (t + 10), none])) (hta : ab_ar 4 w.1 (t + 10) = some (0, 8)) {S : List Nat} (hS : ts_I f t S) (ht14 : t ≠ 14) (hS6 : S.length ≤ 6) (r i j : Nat) (hr32 : r < 31) (hij : i ≤ j) (hjl : j ≤ S.length) : ab_M l E base yX2_lay cX2_lay 6 none 3 0 0 [.ref (ad 13), .ref (ad t), ii_v ((r : Nat) : Int), ii_v ((i : Nat) : Int), ii_v ((j : Nat) : Int)] ab_x4 ad (f, w) (ab_F ad w (fun o g => o = none ∧ ts_I g 14 (lay_f r i j S 0) ∧ ∀ o2, o2 ≠ 14 → o2 ≠ 24 → g o2 = f o2)) := by
  obtain ⟨Post, hPost⟩ : ∃ P : ab_P, P = (ab_F ad w (fun o g => o = none ∧ ts_I g 14 (lay_f r i j S 0) ∧ ∀ o2, o2 ≠ 14 → o2 ≠ 24 → g o2 = f o2)) := ⟨_, rfl⟩
  rw [← hPost]
  refine ab_of RX2 [(0, .ref (ad 13)), (1, .ref (ad t)), (2, ii_v ((r : Nat) : Int)), (3, ii_v ((i : Nat) : Int)), (4, ii_v ((j : Nat) : Int))] hl (by decide) rfl (Nat.le_of_ble_eq_true rfl) rfl ?_
  intro p e s m args below meth c C T0 hnm
  obtain ⟨hc, h8, hj8, hb⟩ := id hS
  have htc := ob_tour_c ht
  refine a_aload_n C dX2_lay_0 rfl ?_
  refine a_get (ci := 3) (i := 2) (v := .ref (ad 14)) C iw_X2 rfl (by decide) rfl fl_X2_12 rfl rfl dX2_lay_1 ?_
  refine a_iconst C dX2_lay_4 ?_
  refine a_putN (ci := 8) (i := 1) C iw_X7 rfl (by decide) rfl tyX7 tyX7_ok nmX7 rfl rfl fn_X2_54 rfl rfl rfl rfl dX2_lay_5 ?_
  obtain ⟨g1, eg1⟩ : ∃ F : Nat → Nat → Int, F = ii_up f 14 1 0 := ⟨_, rfl⟩
  rw [← eg1]
  refine a_iconst C dX2_lay_8 ?_
  refine a_istore (L' := [(0, .ref (ad 13)), (1, .ref (ad t)), (2, ii_v ((r : Nat) : Int)), (3, ii_v ((i : Nat) : Int)), (4, ii_v ((j : Nat) : Int)), (5, ii_v 0)]) C dX2_lay_9 (by decide) rfl ?_
  have loop11 : ∀ (NN11 : Nat) (k : Nat) (P : List Nat) (g : Nat → Nat → Int), S.length + 1 - k < NN11 → (k ≤ S.length + 1) → (ts_I g 14 P) → (∀ o2, o2 ≠ 14 → o2 ≠ 24 → g o2 = f o2) → (k ≤ S.length → P.length = k + (if i < k then 1 else 0) + (if j < k then 1 else 0)) → ((k ≤ S.length → P ++ lay_f r i j (S.drop k) k = lay_f r i j S 0) ∧ (k = S.length + 1 → P = lay_f r i j S 0)) → ab_W p l e (ab_rm 3 0 0) s m args below meth c E base 6 (ab_Q below E base Post args s 0 0) ab_x4 ad (g, w) 0 0 11 [(0, .ref (ad 13)), (1, .ref (ad t)), (2, ii_v ((r : Nat) : Int)), (3, ii_v ((i : Nat) : Int)), (4, ii_v ((j : Nat) : Int)), (5, ii_v ((k : Nat) : Int))] [] := by
    intro NN11
    induction NN11 with
    | zero => intro k P g hNN; exact absurd hNN (Nat.not_lt_zero _)
    | succ NN11 ih11 =>
      intro k P g hNN hk hP hfr hPl hE
      have hSg : ts_I g t S := ts_same hS (hfr _ (by omega) (by omega)) (hfr _ (by omega) (by omega))
      refine a_iload C dX2_lay_11 rfl ?_
      refine a_aload_n C dX2_lay_13 rfl ?_
      refine a_getN (ci := 8) (i := 1) (v := ii_v (g t 1)) C iw_X7 rfl (by decide) rfl fn_X2_54 ht rfl dX2_lay_14 ?_
      rw [hSg.1]
      refine a_icmp_gt (tgt := 83) C dX2_lay_17 rfl (by unfold ii_B; omega) (by unfold ii_B; omega) (fun h17 => ?_) (fun h17 => ?_)
      · skip
        refine a_vret C ?_ (by decide) (by decide) dX2_lay_83
        rw [hPost]
        refine ab_F_of ⟨rfl, ?_, hfr⟩
        rw [← hE.2 (by omega)]
        exact hP
      · skip
        refine a_iload C dX2_lay_20 rfl ?_
        refine a_iload_n C dX2_lay_22 rfl ?_
        refine a_icmp_ne (tgt := 37) C dX2_lay_23 rfl (by unfold ii_B; omega) (by unfold ii_B; omega) (fun h23 => ?_) (fun h23 => ?_)
        · skip
          refine a_iload C dX2_lay_37 rfl ?_
          refine a_iload C dX2_lay_39 rfl ?_
          refine a_icmp_ne (tgt := 55) C dX2_lay_41 rfl (by unfold ii_B; omega) (by unfold ii_B; omega) (fun h41 => ?_) (fun h41 => ?_)
          · skip
            refine a_iload C dX2_lay_55 rfl ?_
            refine a_aload_n C dX2_lay_57 rfl ?_
            refine a_getN (ci := 8) (i := 1) (v := ii_v (g t 1)) C iw_X7 rfl (by decide) rfl fn_X2_54 ht rfl dX2_lay_58 ?_
            rw [hSg.1]
            refine a_icmp_ge (tgt := 77) C dX2_lay_61 rfl (by unfold ii_B; omega) (by unfold ii_B; omega) (fun h61 => ?_) (fun h61 => ?_)
            · skip
              refine a_iinc (L' := [(0, .ref (ad 13)), (1, .ref (ad t)), (2, ii_v ((r : Nat) : Int)), (3, ii_v ((i : Nat) : Int)), (4, ii_v ((j : Nat) : Int)), (5, ii_v (((k : Nat) : Int) + 1))]) C dX2_lay_77 rfl (by decide) rfl ?_
              refine a_goto (tgt := 11) C dX2_lay_80 rfl ?_
              exact ih11 (k + 1) P g (by omega) (by omega) hP hfr (fun h => by omega) ⟨fun h => (by omega), fun _ => (by have e := hE.1 (by omega); rw [List.drop_eq_nil_of_le (by omega)] at e; simp only [lay_f] at e; (first | rw [if_pos (show k = i by omega)] at e | rw [if_neg (show ¬ k = i by omega)] at e); (first | rw [if_pos (show k = j by omega)] at e | rw [if_neg (show ¬ k = j by omega)] at e); simpa using e)⟩
            · skip
              have hbk := hb k (by omega)
              refine a_aload_n C dX2_lay_64 rfl ?_
              refine a_get (ci := 3) (i := 2) (v := .ref (ad 14)) C iw_X2 rfl (by decide) rfl fl_X2_12 rfl rfl dX2_lay_65 ?_
              refine a_aload_n C dX2_lay_68 rfl ?_
              refine a_iload C dX2_lay_69 rfl ?_
              refine a_callVN (o := t) (As := [ii_v ((k : Nat) : Int)]) C (c_stopAtS hl g w ht hta hSg k k rfl (by omega)) co_X7_stopAt in_X7 mn_X2_112 im_X7_stopAt se_X7_stopAt rfl ht ar_X7_stopAt ⟨by decide, by decide, by decide, by decide⟩ rfl (Nat.le_of_ble_eq_true rfl) dX2_lay_71 (a_dR ?_) a_nR
              refine a_callVN (o := 14) (As := [ii_v (((S.getD k 0) : Nat) : Int)]) C (c_add hl g w rfl rfl hP (by have := lay_b (hPl (by omega)) ((if_neg (by omega)).symm) ((if_neg (by omega)).symm); omega) (S.getD k 0) (by omega)) co_X7_add in_X7 mn_X2_105 im_X7_add se_X7_add rfl rfl ar_X7_add ⟨by decide, by decide, by decide, by decide⟩ rfl (Nat.le_of_ble_eq_true rfl) dX2_lay_74 (a_dF ?_) a_nF
              intro vg2 g2 hvg2
              obtain ⟨rfl, hsg2, hfg2⟩ := hvg2
              have hSg2 : ts_I g2 t S := ts_same hSg (hfg2 _ (by omega) (by omega)) (hfg2 _ (by omega) (by omega))
              have hfrg2 : ∀ o2, o2 ≠ 14 → o2 ≠ 24 → g2 o2 = f o2 := fun o2 h h2 => (hfg2 o2 h h2).trans (hfr o2 h h2)
              refine a_iinc (L' := [(0, .ref (ad 13)), (1, .ref (ad t)), (2, ii_v ((r : Nat) : Int)), (3, ii_v ((i : Nat) : Int)), (4, ii_v ((j : Nat) : Int)), (5, ii_v (((k : Nat) : Int) + 1))]) C dX2_lay_77 rfl (by decide) rfl ?_
              refine a_goto (tgt := 11) C dX2_lay_80 rfl ?_
              exact ih11 (k + 1) (P ++ [(S.getD k 0)]) g2 (by omega) (by omega) hsg2 hfrg2 (fun h => lay_len (hPl (by omega)) ((if_neg (by omega)).symm) ((if_neg (by omega)).symm) (by simp)) ⟨fun _ => (by have e := hE.1 (by omega); rw [ls_drop (by omega)] at e; simp only [lay_f] at e; (first | rw [if_pos (show k = i by omega)] at e | rw [if_neg (show ¬ k = i by omega)] at e); (first | rw [if_pos (show k = j by omega)] at e | rw [if_neg (show ¬ k = j by omega)] at e); simpa using e), fun h => (by omega)⟩
          · skip
            refine a_aload_n C dX2_lay_44 rfl ?_
            refine a_get (ci := 3) (i := 2) (v := .ref (ad 14)) C iw_X2 rfl (by decide) rfl fl_X2_12 rfl rfl dX2_lay_45 ?_
            refine a_iload_n C dX2_lay_48 rfl ?_
            refine a_callSN (As := [ii_v ((r : Nat) : Int)]) C (c_dropOf hl g w r) co_X9_dropOf in_X9 mn_X2_109 sc_X9_dropOf ar_X9_dropOf ⟨by decide, by decide, by decide, by decide⟩ rfl (Nat.le_of_ble_eq_true rfl) dX2_lay_49 (a_dR ?_) a_nR
            refine a_callVN (o := 14) (As := [ii_v (((2 * r + 1) : Nat) : Int)]) C (c_add hl g w rfl rfl hP (by have := lay_b (hPl (by omega)) ((if_neg (by omega)).symm) ((if_pos (by omega)).symm); omega) (2 * r + 1) (by omega)) co_X7_add in_X7 mn_X2_105 im_X7_add se_X7_add rfl rfl ar_X7_add ⟨by decide, by decide, by decide, by decide⟩ rfl (Nat.le_of_ble_eq_true rfl) dX2_lay_52 (a_dF ?_) a_nF
            intro vg3 g3 hvg3
            obtain ⟨rfl, hsg3, hfg3⟩ := hvg3
            have hSg3 : ts_I g3 t S := ts_same hSg (hfg3 _ (by omega) (by omega)) (hfg3 _ (by omega) (by omega))
            have hfrg3 : ∀ o2, o2 ≠ 14 → o2 ≠ 24 → g3 o2 = f o2 := fun o2 h h2 => (hfg3 o2 h h2).trans (hfr o2 h h2)
            refine a_iload C dX2_lay_55 rfl ?_
            refine a_aload_n C dX2_lay_57 rfl ?_
            refine a_getN (ci := 8) (i := 1) (v := ii_v (g3 t 1)) C iw_X7 rfl (by decide) rfl fn_X2_54 ht rfl dX2_lay_58 ?_
            rw [hSg3.1]
            refine a_icmp_ge (tgt := 77) C dX2_lay_61 rfl (by unfold ii_B; omega) (by unfold ii_B; omega) (fun h61 => ?_) (fun h61 => ?_)
            · skip
              refine a_iinc (L' := [(0, .ref (ad 13)), (1, .ref (ad t)), (2, ii_v ((r : Nat) : Int)), (3, ii_v ((i : Nat) : Int)), (4, ii_v ((j : Nat) : Int)), (5, ii_v (((k : Nat) : Int) + 1))]) C dX2_lay_77 rfl (by decide) rfl ?_
              refine a_goto (tgt := 11) C dX2_lay_80 rfl ?_
              exact ih11 (k + 1) (P ++ [(2 * r + 1)]) g3 (by omega) (by omega) hsg3 hfrg3 (fun h => by omega) ⟨fun h => (by omega), fun _ => (by have e := hE.1 (by omega); rw [List.drop_eq_nil_of_le (by omega)] at e; simp only [lay_f] at e; (first | rw [if_pos (show k = i by omega)] at e | rw [if_neg (show ¬ k = i by omega)] at e); (first | rw [if_pos (show k = j by omega)] at e | rw [if_neg (show ¬ k = j by omega)] at e); simpa using e)⟩
            · skip
              have hbk := hb k (by omega)
              refine a_aload_n C dX2_lay_64 rfl ?_
              refine a_get (ci := 3) (i := 2) (v := .ref (ad 14)) C iw_X2 rfl (by decide) rfl fl_X2_12 rfl rfl dX2_lay_65 ?_
              refine a_aload_n C dX2_lay_68 rfl ?_
              refine a_iload C dX2_lay_69 rfl ?_
              refine a_callVN (o := t) (As := [ii_v ((k : Nat) : Int)]) C (c_stopAtS hl g3 w ht hta hSg3 k k rfl (by omega)) co_X7_stopAt in_X7 mn_X2_112 im_X7_stopAt se_X7_stopAt rfl ht ar_X7_stopAt ⟨by decide, by decide, by decide, by decide⟩ rfl (Nat.le_of_ble_eq_true rfl) dX2_lay_71 (a_dR ?_) a_nR
              refine a_callVN (o := 14) (As := [ii_v (((S.getD k 0) : Nat) : Int)]) C (c_add hl g3 w rfl rfl hsg3 (by have := lay_b (hPl (by omega)) ((if_neg (by omega)).symm) ((if_pos (by omega)).symm); simp only [List.length_append, List.length_cons, List.length_nil]; omega) (S.getD k 0) (by omega)) co_X7_add in_X7 mn_X2_105 im_X7_add se_X7_add rfl rfl ar_X7_add ⟨by decide, by decide, by decide, by decide⟩ rfl (Nat.le_of_ble_eq_true rfl) dX2_lay_74 (a_dF ?_) a_nF
              intro vg4 g4 hvg4
              obtain ⟨rfl, hsg4, hfg4⟩ := hvg4
              have hSg4 : ts_I g4 t S := ts_same hSg3 (hfg4 _ (by omega) (by omega)) (hfg4 _ (by omega) (by omega))
              have hfrg4 : ∀ o2, o2 ≠ 14 → o2 ≠ 24 → g4 o2 = f o2 := fun o2 h h2 => (hfg4 o2 h h2).trans (hfrg3 o2 h h2)
              refine a_iinc (L' := [(0, .ref (ad 13)), (1, .ref (ad t)), (2, ii_v ((r : Nat) : Int)), (3, ii_v ((i : Nat) : Int)), (4, ii_v ((j : Nat) : Int)), (5, ii_v (((k : Nat) : Int) + 1))]) C dX2_lay_77 rfl (by decide) rfl ?_
              refine a_goto (tgt := 11) C dX2_lay_80 rfl ?_
              exact ih11 (k + 1) ((P ++ [(2 * r + 1)]) ++ [(S.getD k 0)]) g4 (by omega) (by omega) hsg4 hfrg4 (fun h => lay_len (hPl (by omega)) ((if_neg (by omega)).symm) ((if_pos (by omega)).symm) (by simp)) ⟨fun _ => (by have e := hE.1 (by omega); rw [ls_drop (by omega)] at e; simp only [lay_f] at e; (first | rw [if_pos (show k = i by omega)] at e | rw [if_neg (show ¬ k = i by omega)] at e); (first | rw [if_pos (show k = j by omega)] at e | rw [if_neg (show ¬ k = j by omega)] at e); simpa using e), fun h => (by omega)⟩
        · skip
          refine a_aload_n C dX2_lay_26 rfl ?_
          refine a_get (ci := 3) (i := 2) (v := .ref (ad 14)) C iw_X2 rfl (by decide) rfl fl_X2_12 rfl rfl dX2_lay_27 ?_
          refine a_iload_n C dX2_lay_30 rfl ?_
          refine a_callSN (As := [ii_v ((r : Nat) : Int)]) C (c_pickupOf hl g w r) co_X9_pickupOf in_X9 mn_X2_101 sc_X9_pickupOf ar_X9_pickupOf ⟨by decide, by decide, by decide, by decide⟩ rfl (Nat.le_of_ble_eq_true rfl) dX2_lay_31 (a_dR ?_) a_nR
          refine a_callVN (o := 14) (As := [ii_v (((2 * r) : Nat) : Int)]) C (c_add hl g w rfl rfl hP (by have := lay_b (i := i) (j := j) (hPl (by omega)) rfl rfl; rw [if_pos (show k = i by omega)] at this; omega) (2 * r) (by omega)) co_X7_add in_X7 mn_X2_105 im_X7_add se_X7_add rfl rfl ar_X7_add ⟨by decide, by decide, by decide, by decide⟩ rfl (Nat.le_of_ble_eq_true rfl) dX2_lay_34 (a_dF ?_) a_nF
          intro vg5 g5 hvg5
          obtain ⟨rfl, hsg5, hfg5⟩ := hvg5
          have hSg5 : ts_I g5 t S := ts_same hSg (hfg5 _ (by omega) (by omega)) (hfg5 _ (by omega) (by omega))
          have hfrg5 : ∀ o2, o2 ≠ 14 → o2 ≠ 24 → g5 o2 = f o2 := fun o2 h h2 => (hfg5 o2 h h2).trans (hfr o2 h h2)
          refine a_iload C dX2_lay_37 rfl ?_
          refine a_iload C dX2_lay_39 rfl ?_
          refine a_icmp_ne (tgt := 55) C dX2_lay_41 rfl (by unfold ii_B; omega) (by unfold ii_B; omega) (fun h41 => ?_) (fun h41 => ?_)
          · skip
            refine a_iload C dX2_lay_55 rfl ?_
            refine a_aload_n C dX2_lay_57 rfl ?_
            refine a_getN (ci := 8) (i := 1) (v := ii_v (g5 t 1)) C iw_X7 rfl (by decide) rfl fn_X2_54 ht rfl dX2_lay_58 ?_
            rw [hSg5.1]
            refine a_icmp_ge (tgt := 77) C dX2_lay_61 rfl (by unfold ii_B; omega) (by unfold ii_B; omega) (fun h61 => ?_) (fun h61 => ?_)
            · skip
              refine a_iinc (L' := [(0, .ref (ad 13)), (1, .ref (ad t)), (2, ii_v ((r : Nat) : Int)), (3, ii_v ((i : Nat) : Int)), (4, ii_v ((j : Nat) : Int)), (5, ii_v (((k : Nat) : Int) + 1))]) C dX2_lay_77 rfl (by decide) rfl ?_
              refine a_goto (tgt := 11) C dX2_lay_80 rfl ?_
              exact ih11 (k + 1) (P ++ [(2 * r)]) g5 (by omega) (by omega) hsg5 hfrg5 (fun h => by omega) (by exfalso; omega)
            · skip
              have hbk := hb k (by omega)
              refine a_aload_n C dX2_lay_64 rfl ?_
              refine a_get (ci := 3) (i := 2) (v := .ref (ad 14)) C iw_X2 rfl (by decide) rfl fl_X2_12 rfl rfl dX2_lay_65 ?_
              refine a_aload_n C dX2_lay_68 rfl ?_
              refine a_iload C dX2_lay_69 rfl ?_
              refine a_callVN (o := t) (As := [ii_v ((k : Nat) : Int)]) C (c_stopAtS hl g5 w ht hta hSg5 k k rfl (by omega)) co_X7_stopAt in_X7 mn_X2_112 im_X7_stopAt se_X7_stopAt rfl ht ar_X7_stopAt ⟨by decide, by decide, by decide, by decide⟩ rfl (Nat.le_of_ble_eq_true rfl) dX2_lay_71 (a_dR ?_) a_nR
              refine a_callVN (o := 14) (As := [ii_v (((S.getD k 0) : Nat) : Int)]) C (c_add hl g5 w rfl rfl hsg5 (by have := lay_b (hPl (by omega)) ((if_pos (by omega)).symm) ((if_neg (by omega)).symm); simp only [List.length_append, List.length_cons, List.length_nil]; omega) (S.getD k 0) (by omega)) co_X7_add in_X7 mn_X2_105 im_X7_add se_X7_add rfl rfl ar_X7_add ⟨by decide, by decide, by decide, by decide⟩ rfl (Nat.le_of_ble_eq_true rfl) dX2_lay_74 (a_dF ?_) a_nF
              intro vg6 g6 hvg6
              obtain ⟨rfl, hsg6, hfg6⟩ := hvg6
              have hSg6 : ts_I g6 t S := ts_same hSg5 (hfg6 _ (by omega) (by omega)) (hfg6 _ (by omega) (by omega))
              have hfrg6 : ∀ o2, o2 ≠ 14 → o2 ≠ 24 → g6 o2 = f o2 := fun o2 h h2 => (hfg6 o2 h h2).trans (hfrg5 o2 h h2)
              refine a_iinc (L' := [(0, .ref (ad 13)), (1, .ref (ad t)), (2, ii_v ((r : Nat) : Int)), (3, ii_v ((i : Nat) : Int)), (4, ii_v ((j : Nat) : Int)), (5, ii_v (((k : Nat) : Int) + 1))]) C dX2_lay_77 rfl (by decide) rfl ?_
              refine a_goto (tgt := 11) C dX2_lay_80 rfl ?_
              exact ih11 (k + 1) ((P ++ [(2 * r)]) ++ [(S.getD k 0)]) g6 (by omega) (by omega) hsg6 hfrg6 (fun h => lay_len (hPl (by omega)) ((if_pos (by omega)).symm) ((if_neg (by omega)).symm) (by simp)) ⟨fun _ => (by have e := hE.1 (by omega); rw [ls_drop (by omega)] at e; simp only [lay_f] at e; (first | rw [if_pos (show k = i by omega)] at e | rw [if_neg (show ¬ k = i by omega)] at e); (first | rw [if_pos (show k = j by omega)] at e | rw [if_neg (show ¬ k = j by omega)] at e); simpa using e), fun h => (by omega)⟩
          · skip
            refine a_aload_n C dX2_lay_44 rfl ?_
            refine a_get (ci := 3) (i := 2) (v := .ref (ad 14)) C iw_X2 rfl (by decide) rfl fl_X2_12 rfl rfl dX2_lay_45 ?_
            refine a_iload_n C dX2_lay_48 rfl ?_
            refine a_callSN (As := [ii_v ((r : Nat) : Int)]) C (c_dropOf hl g5 w r) co_X9_dropOf in_X9 mn_X2_109 sc_X9_dropOf ar_X9_dropOf ⟨by decide, by decide, by decide, by decide⟩ rfl (Nat.le_of_ble_eq_true rfl) dX2_lay_49 (a_dR ?_) a_nR
            refine a_callVN (o := 14) (As := [ii_v (((2 * r + 1) : Nat) : Int)]) C (c_add hl g5 w rfl rfl hsg5 (by have := lay_b (hPl (by omega)) ((if_pos (by omega)).symm) ((if_pos (by omega)).symm); simp only [List.length_append, List.length_cons, List.length_nil]; omega) (2 * r + 1) (by omega)) co_X7_add in_X7 mn_X2_105 im_X7_add se_X7_add rfl rfl ar_X7_add ⟨by decide, by decide, by decide, by decide⟩ rfl (Nat.le_of_ble_eq_true rfl) dX2_lay_52 (a_dF ?_) a_nF
            intro vg7 g7 hvg7
            obtain ⟨rfl, hsg7, hfg7⟩ := hvg7
            have hSg7 : ts_I g7 t S := ts_same hSg5 (hfg7 _ (by omega) (by omega)) (hfg7 _ (by omega) (by omega))
            have hfrg7 : ∀ o2, o2 ≠ 14 → o2 ≠ 24 → g7 o2 = f o2 := fun o2 h h2 => (hfg7 o2 h h2).trans (hfrg5 o2 h h2)
            refine a_iload C dX2_lay_55 rfl ?_
            refine a_aload_n C dX2_lay_57 rfl ?_
            refine a_getN (ci := 8) (i := 1) (v := ii_v (g7 t 1)) C iw_X7 rfl (by decide) rfl fn_X2_54 ht rfl dX2_lay_58 ?_
            rw [hSg7.1]
            refine a_icmp_ge (tgt := 77) C dX2_lay_61 rfl (by unfold ii_B; omega) (by unfold ii_B; omega) (fun h61 => ?_) (fun h61 => ?_)
            · skip
              refine a_iinc (L' := [(0, .ref (ad 13)), (1, .ref (ad t)), (2, ii_v ((r : Nat) : Int)), (3, ii_v ((i : Nat) : Int)), (4, ii_v ((j : Nat) : Int)), (5, ii_v (((k : Nat) : Int) + 1))]) C dX2_lay_77 rfl (by decide) rfl ?_
              refine a_goto (tgt := 11) C dX2_lay_80 rfl ?_
              exact ih11 (k + 1) ((P ++ [(2 * r)]) ++ [(2 * r + 1)]) g7 (by omega) (by omega) hsg7 hfrg7 (fun h => by omega) ⟨fun h => (by omega), fun _ => (by have e := hE.1 (by omega); rw [List.drop_eq_nil_of_le (by omega)] at e; simp only [lay_f] at e; (first | rw [if_pos (show k = i by omega)] at e | rw [if_neg (show ¬ k = i by omega)] at e); (first | rw [if_pos (show k = j by omega)] at e | rw [if_neg (show ¬ k = j by omega)] at e); simpa using e)⟩
            · skip
              have hbk := hb k (by omega)
              refine a_aload_n C dX2_lay_64 rfl ?_
              refine a_get (ci := 3) (i := 2) (v := .ref (ad 14)) C iw_X2 rfl (by decide) rfl fl_X2_12 rfl rfl dX2_lay_65 ?_
              refine a_aload_n C dX2_lay_68 rfl ?_
              refine a_iload C dX2_lay_69 rfl ?_
              refine a_callVN (o := t) (As := [ii_v ((k : Nat) : Int)]) C (c_stopAtS hl g7 w ht hta hSg7 k k rfl (by omega)) co_X7_stopAt in_X7 mn_X2_112 im_X7_stopAt se_X7_stopAt rfl ht ar_X7_stopAt ⟨by decide, by decide, by decide, by decide⟩ rfl (Nat.le_of_ble_eq_true rfl) dX2_lay_71 (a_dR ?_) a_nR
              refine a_callVN (o := 14) (As := [ii_v (((S.getD k 0) : Nat) : Int)]) C (c_add hl g7 w rfl rfl hsg7 (by have := lay_b (hPl (by omega)) ((if_pos (by omega)).symm) ((if_pos (by omega)).symm); simp only [List.length_append, List.length_cons, List.length_nil]; omega) (S.getD k 0) (by omega)) co_X7_add in_X7 mn_X2_105 im_X7_add se_X7_add rfl rfl ar_X7_add ⟨by decide, by decide, by decide, by decide⟩ rfl (Nat.le_of_ble_eq_true rfl) dX2_lay_74 (a_dF ?_) a_nF
              intro vg8 g8 hvg8
              obtain ⟨rfl, hsg8, hfg8⟩ := hvg8
              have hSg8 : ts_I g8 t S := ts_same hSg7 (hfg8 _ (by omega) (by omega)) (hfg8 _ (by omega) (by omega))
              have hfrg8 : ∀ o2, o2 ≠ 14 → o2 ≠ 24 → g8 o2 = f o2 := fun o2 h h2 => (hfg8 o2 h h2).trans (hfrg7 o2 h h2)
              refine a_iinc (L' := [(0, .ref (ad 13)), (1, .ref (ad t)), (2, ii_v ((r : Nat) : Int)), (3, ii_v ((i : Nat) : Int)), (4, ii_v ((j : Nat) : Int)), (5, ii_v (((k : Nat) : Int) + 1))]) C dX2_lay_77 rfl (by decide) rfl ?_
              refine a_goto (tgt := 11) C dX2_lay_80 rfl ?_
              exact ih11 (k + 1) (((P ++ [(2 * r)]) ++ [(2 * r + 1)]) ++ [(S.getD k 0)]) g8 (by omega) (by omega) hsg8 hfrg8 (fun h => lay_len (hPl (by omega)) ((if_pos (by omega)).symm) ((if_pos (by omega)).symm) (by simp)) ⟨fun _ => (by have e := hE.1 (by omega); rw [ls_drop (by omega)] at e; simp only [lay_f] at e; (first | rw [if_pos (show k = i by omega)] at e | rw [if_neg (show ¬ k = i by omega)] at e); (first | rw [if_pos (show k = j by omega)] at e | rw [if_neg (show ¬ k = j by omega)] at e); simpa using e), fun h => (by omega)⟩
  exact loop11 (_ + 1) 0 ([] : List Nat) g1 (Nat.lt_succ_self _) (Nat.zero_le _) (by rw [eg1]; exact ⟨ii_up_s _ _ _ _, Nat.zero_le _, fun j h => absurd h (Nat.not_lt_zero j), fun j h => absurd h (Nat.not_lt_zero j)⟩) (fun o2 h h2 => by rw [eg1]; exact ii_up_row _ _ h) (fun _ => rfl) ⟨fun _ => rfl, fun h => by omega⟩
