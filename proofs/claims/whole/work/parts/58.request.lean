/-! A request of the class. -/
theorem ab_N_of {w1 : Nat × Nat × Int64 × UInt64} {P : Option Value → (Nat → Nat) → (Nat → Nat → Int) → Prop} {v : Option Value} {ad : Nat → Nat} {f : Nat → Nat → Int} (h : P v ad f) : ab_N w1 P (.inl v) ab_x4 ad (f, w1) := ⟨rfl, rfl, v, rfl, h⟩
theorem nq_row {f : Nat → Nat → Int} {nr o : Nat} (h : o ≠ 301 + nr) : nq_T f nr o = f o := by
  funext i
  exact if_neg h
/-- the numbers of the stops and requests, an empty wish behind them -/
def vq_f (v : Nat → Nat → Int) (m : Nat) : Nat → Nat → Int := fun c i => if (c = 0 ∧ i / 2 = m) ∨ (c = 1 ∧ i / 2 = m) ∨ (2 ≤ c ∧ i = m) then 0 else v c i
theorem nq_pe {f v : Nat → Nat → Int} {nr : Nat} (h : pe_C f v nr) : pe_C (nq_T f nr) (vq_f v (nr + 1)) (nr + 1) := by
  refine ⟨fun q hq => ?_, fun r hr => ?_⟩
  · by_cases hn : q / 2 = nr + 1
    · unfold pd_x pd_y
      rw [hn]
      have e0 : ∀ i, i ≠ 10 → nq_T f nr (300 + (nr + 1)) i = 0 := fun i hi => by
        unfold nq_T
        rw [if_pos (by omega), if_neg hi]
      rw [e0 0 (by decide), e0 1 (by decide), e0 2 (by decide), e0 3 (by decide)]
      have e1 : vq_f v (nr + 1) 0 q = 0 := if_pos (Or.inl ⟨rfl, hn⟩)
      have e2 : vq_f v (nr + 1) 1 q = 0 := if_pos (Or.inr (Or.inl ⟨rfl, hn⟩))
      rw [e1, e2]
      split <;> exact ⟨rfl, rfl, by omega, by omega⟩
    · have h1 := h.1 q (by omega)
      have e1 : vq_f v (nr + 1) 0 q = v 0 q := if_neg (by omega)
      have e2 : vq_f v (nr + 1) 1 q = v 1 q := if_neg (by omega)
      unfold pd_x pd_y at h1 ⊢
      rw [e1, e2, nq_row (by omega)]
      exact h1
  · by_cases hn : r = nr + 1
    · have e0 : ∀ i, i ≠ 10 → nq_T f nr (300 + r) i = 0 := fun i hi => by
        unfold nq_T
        rw [if_pos (by omega), if_neg hi]
      have e1 : ∀ c, 2 ≤ c → vq_f v (nr + 1) c r = 0 := fun c hc => if_pos (Or.inr (Or.inr ⟨hc, hn⟩))
      rw [e0 4 (by decide), e0 6 (by decide), e0 7 (by decide), e0 11 (by decide), e1 2 (by decide), e1 3 (by decide), e1 4 (by decide), e1 5 (by decide)]
      exact ⟨rfl, rfl, rfl, rfl, by omega, by omega, by omega, by omega⟩
    · have h1 := h.2 r (by omega)
      have e1 : ∀ c, 2 ≤ c → vq_f v (nr + 1) c r = v c r := fun c hc => if_neg (by omega)
      rw [e1 2 (by decide), e1 3 (by decide), e1 4 (by decide), e1 5 (by decide), nq_row (by omega)]
      exact h1
set_option maxRecDepth 20000 in
set_option maxHeartbeats 2000000 in
theorem c_request {l : Launch} {E : ab_E} {base : Nat} (hl : l.stackTraces = false) {ad : Nat → Nat} (f : Nat → Nat → Int) (w : Nat × Nat × Int64 × UInt64) {v : Nat → Nat → Int} {TS : Nat → List Nat} (hD : wd_C f w v TS) (x y u z n : Int) (zx : -2147483648 ≤ x ∧ x < 2147483648) (zy : -2147483648 ≤ y ∧ y < 2147483648) (zu : -2147483648 ≤ u ∧ u < 2147483648) (zz : -2147483648 ≤ z ∧ z < 2147483648) (zn : -2147483648 ≤ n ∧ n < 2147483648) (hnow : 0 ≤ f 0 6 ∧ f 0 6 ≤ 90000) (hdt : 0 ≤ f 0 7 ∧ f 0 7 ≤ 200) (hwt : 0 ≤ f 0 8 ∧ f 0 8 ≤ 60) (h : (((0 ≤ x ∧ x ≤ 20) ∧ (0 ≤ y ∧ y ≤ 20)) ∧ ((0 ≤ u ∧ u ≤ 20) ∧ (0 ≤ z ∧ z ≤ 20)) ∧ 1 ≤ n ∧ n ≤ 6)) (h2 : ¬ (x = u ∧ y = z)) (hr29 : w.2.1 < 30) (b i j : Nat) (A0 W0 : Int) (hPB : (pa_b (vw_f v w.2.1 x y u z n (f 0 6 + f 0 8) (pd_d x y u z * (100 + f 0 7) / 100)) (fun b => f (200 + b)) TS w.2.1 (f 0 6) w.1 (-1, f 13 4, f 13 5, 1000000, 1)) = ((b : Int), (i : Int), (j : Int), A0, W0)) (hb : b < w.1) (hij : i ≤ j) (hjl : j ≤ (TS b).length) (ne : Nat) (hm : f 4 4 = (ne : Int)) (h60 : ne + ((TS b).length + 2) ≤ 60)  : ab_M l E base yX9_request cX9_request 9 (some .int) 11 2 130 [.ref (ad 0), ii_v x, ii_v y, ii_v u, ii_v z, ii_v n] ab_x4 ad (f, w) (ab_N (w.1, w.2.1 + 1, w.2.2) (fun ov ad1 g => ov = some (ii_v ((w.2.1 : Nat) : Int)) ∧ ts_I g (200 + b + 10) ((lay_f w.2.1 i j (TS b) 0).drop (du_n (vq_f (vw_f v w.2.1 x y u z n (f 0 6 + f 0 8) (pd_d x y u z * (100 + f 0 7) / 100)) (w.2.1 + 1)) (f (200 + b) 6) (f (200 + b) 7) (lay_f w.2.1 i j (TS b) 0))) ∧ (∀ o2, o2 ≠ 10 → o2 ≠ 11 → o2 ≠ 12 → o2 ≠ 13 → o2 ≠ 14 → o2 ≠ 24 → o2 ≠ 200 + b + 10 → o2 ≠ 200 + b + 10 + 10 → g o2 = md_T (ii_up (ii_up (nq_T (wi_T f w.2.1 x y u z n) w.2.1) (300 + w.2.1) 8 119) (300 + w.2.1) 10 (f (200 + b) 0)) b ((lay_f w.2.1 i j (TS b) 0).take (du_n (vq_f (vw_f v w.2.1 x y u z n (f 0 6 + f 0 8) (pd_d x y u z * (100 + f 0 7) / 100)) (w.2.1 + 1)) (f (200 + b) 6) (f (200 + b) 7) (lay_f w.2.1 i j (TS b) 0))) o2) ∧ ∀ o, o ≠ 33 → o ≠ 301 + w.2.1 → ad1 o = ad o)) := by
  obtain ⟨Post, hPost⟩ : ∃ P : ab_P, P = (ab_N (w.1, w.2.1 + 1, w.2.2) (fun ov ad1 g => ov = some (ii_v ((w.2.1 : Nat) : Int)) ∧ ts_I g (200 + b + 10) ((lay_f w.2.1 i j (TS b) 0).drop (du_n (vq_f (vw_f v w.2.1 x y u z n (f 0 6 + f 0 8) (pd_d x y u z * (100 + f 0 7) / 100)) (w.2.1 + 1)) (f (200 + b) 6) (f (200 + b) 7) (lay_f w.2.1 i j (TS b) 0))) ∧ (∀ o2, o2 ≠ 10 → o2 ≠ 11 → o2 ≠ 12 → o2 ≠ 13 → o2 ≠ 14 → o2 ≠ 24 → o2 ≠ 200 + b + 10 → o2 ≠ 200 + b + 10 + 10 → g o2 = md_T (ii_up (ii_up (nq_T (wi_T f w.2.1 x y u z n) w.2.1) (300 + w.2.1) 8 119) (300 + w.2.1) 10 (f (200 + b) 0)) b ((lay_f w.2.1 i j (TS b) 0).take (du_n (vq_f (vw_f v w.2.1 x y u z n (f 0 6 + f 0 8) (pd_d x y u z * (100 + f 0 7) / 100)) (w.2.1 + 1)) (f (200 + b) 6) (f (200 + b) 7) (lay_f w.2.1 i j (TS b) 0))) o2) ∧ ∀ o, o ≠ 33 → o ≠ 301 + w.2.1 → ad1 o = ad o)) := ⟨_, rfl⟩
  rw [← hPost]
  refine ab_of RX9 [(0, .ref (ad 0)), (1, ii_v x), (2, ii_v y), (3, ii_v u), (4, ii_v z), (5, ii_v n)] hl (by decide) rfl (Nat.le_of_ble_eq_true rfl) rfl ?_
  intro p e s m args below meth c C T0 hnm
  refine a_aload_n C dX9_request_0 rfl ?_
  refine a_iload_n C dX9_request_1 rfl ?_
  refine a_iload_n C dX9_request_2 rfl ?_
  refine a_iload_n C dX9_request_3 rfl ?_
  refine a_iload C dX9_request_4 rfl ?_
  refine a_iload C dX9_request_6 rfl ?_
  refine a_callV (o := 0) (As := [ii_v x, ii_v y, ii_v u, ii_v z, ii_v n]) C (c_takeWish hl f w x y u z n zx zy zu zz zn ⟨hnow.1, by omega⟩ hdt hwt h h2) co_X9_takeWish in_X9 ml_X9_105 im_X9_takeWish se_X9_takeWish rfl rfl ar_X9_takeWish ⟨by decide, by decide, by decide, by decide⟩ rfl (Nat.le_of_ble_eq_true rfl) dX9_request_8 (a_dV ?_) a_nV
  obtain ⟨g1, eg1⟩ : ∃ F : Nat → Nat → Int, F = (wi_T f w.2.1 x y u z n) := ⟨_, rfl⟩
  rw [← eg1]
  have hD2 : wd_C g1 w (vw_f v w.2.1 x y u z n (f 0 6 + f 0 8) (pd_d x y u z * (100 + f 0 7) / 100)) TS := by rw [eg1]; exact wi_wd hD hnow hdt hwt h
  have h0g1 : g1 0 = f 0 := by rw [eg1]; exact wi_row (by omega)
  have hr := hD.1
  have h4 := hD.2.1
  have h13g1 : g1 13 = f 13 := by rw [eg1]; exact wi_row (by omega)
  refine a_aload_n C dX9_request_11 rfl ?_
  refine a_get (ci := 10) (i := 1) (v := .ref (ad 2)) C iw_X9 rfl (by decide) rfl fl_X9_19 rfl rfl dX9_request_12 ?_
  refine a_callVN (o := 2) (As := []) C (c_count hl g1 w hr) co_X0_count in_X0 mn_X9_108 im_X0_count se_X0_count rfl rfl ar_X0_count ⟨by decide, by decide, by decide, by decide⟩ rfl (Nat.le_of_ble_eq_true rfl) dX9_request_15 (a_dR ?_) a_nR
  refine a_istore (L' := [(0, .ref (ad 0)), (1, ii_v x), (2, ii_v y), (3, ii_v u), (4, ii_v z), (5, ii_v n), (6, ii_v ((w.2.1 : Nat) : Int))]) C dX9_request_18 (by decide) rfl ?_
  refine a_iload C dX9_request_20 rfl ?_
  refine a_bipush C dX9_request_22 (by decide) ?_
  refine a_icmp_lt (tgt := 37) C dX9_request_24 rfl (by unfold ii_B; omega) (by unfold ii_B; omega) (fun h24 => ?_) (fun h24 => ?_)
  · skip
    refine a_aload_n C dX9_request_37 rfl ?_
    refine a_get (ci := 10) (i := 4) (v := .ref (ad 13)) C iw_X9 rfl (by decide) rfl fl_X9_47 rfl rfl dX9_request_38 ?_
    refine a_aload_n C dX9_request_41 rfl ?_
    refine a_get (ci := 10) (i := 0) (v := .ref (ad 1)) C iw_X9 rfl (by decide) rfl fl_X9_12 rfl rfl dX9_request_42 ?_
    refine a_iload C dX9_request_45 rfl ?_
    refine a_aload_n C dX9_request_47 rfl ?_
    refine a_get (ci := 10) (i := 6) (v := ii_v (g1 0 6)) C iw_X9 rfl (by decide) rfl fl_X9_58 rfl rfl dX9_request_48 ?_
    refine a_top (w := ii_v (f 0 6)) (congrArg (fun q => ii_v q) (congrFun h0g1 6)) ?_
    refine a_callVN (o := 13) (As := [.ref (ad 1), ii_v ((w.2.1 : Nat) : Int), ii_v (f 0 6)]) C (c_tryAll hl g1 w hD2 w.2.1 (Nat.le_refl _) (f 0 6) ⟨hnow.1, by omega⟩) co_X2_tryAll in_X2 mn_X9_113 im_X2_tryAll se_X2_tryAll rfl rfl ar_X2_tryAll ⟨by decide, by decide, by decide, by decide⟩ rfl (Nat.le_of_ble_eq_true rfl) dX9_request_51 (a_dF ?_) a_nF
    intro vg2 g2 hvg2
    obtain ⟨rfl, hat, hbd, hfg2⟩ := hvg2
    rw [h13g1] at hat
    rw [pa_b_rows (B2 := fun b => f (200 + b)) (fun b hb => (by rw [eg1]; exact wi_row (by omega) : g1 (200 + b) = f (200 + b))) _] at hat
    rw [hPB] at hat
    refine a_aload_n C dX9_request_54 rfl ?_
    refine a_get (ci := 10) (i := 1) (v := .ref (ad 2)) C iw_X9 rfl (by decide) rfl fl_X9_19 rfl rfl dX9_request_55 ?_
    refine a_callVN (o := 2) (As := []) C (c_keepWish hl g2 w hr29 h4) co_X0_keepWish in_X0 mn_X9_117 im_X0_keepWish se_X0_keepWish rfl rfl ar_X0_keepWish ⟨by decide, by decide, by decide, by decide⟩ rfl (Nat.le_of_ble_eq_true rfl) dX9_request_58 (a_dN ?_) a_nN
    intro vg3 ad1 g3 hvg3
    obtain ⟨rfl, eg3, had⟩ := hvg3
    rw [show ad 0 = ad1 0 from (had 0 (by decide) (by omega)).symm]
    have hkg3 : ∀ o, o ≠ 301 + w.2.1 → g3 o = g2 o := fun o ho => by rw [eg3]; funext i; exact if_neg ho
    have hq3 : ∀ o, o ≠ 301 + w.2.1 → o ≠ 300 + w.2.1 → o ≠ 10 → o ≠ 11 → o ≠ 12 → o ≠ 13 → o ≠ 14 → o ≠ 24 → g3 o = f o := fun o ha hb h1 h2 h3 h4 h5 h6 => by rw [hkg3 o ha, hfg2 o h1 h2 h3 h4 h5 h6, eg1]; exact wi_row hb
    have hb13 : g3 13 3 = ((b : Nat) : Int) := by rw [hkg3 13 (by omega)]; exact hat.1
    have hi13 : g3 13 4 = ((i : Nat) : Int) := by rw [hkg3 13 (by omega)]; exact hat.2.1
    have hj13 : g3 13 5 = ((j : Nat) : Int) := by rw [hkg3 13 (by omega)]; exact hat.2.2.1
    refine a_astore (L' := [(0, .ref (ad1 0)), (1, ii_v x), (2, ii_v y), (3, ii_v u), (4, ii_v z), (5, ii_v n), (6, ii_v ((w.2.1 : Nat) : Int)), (7, .ref (ad1 (300 + w.2.1)))]) C dX9_request_61 (by decide) rfl ?_
    refine a_aload_n C dX9_request_63 rfl ?_
    refine a_get (ci := 10) (i := 4) (v := .ref (ad1 13)) C iw_X9 rfl (by decide) rfl fl_X9_47 rfl rfl dX9_request_64 ?_
    refine a_callVN (o := 13) (As := []) C (c_isFound hl g3 (w.1, w.2.1 + 1, w.2.2) (by rw [hkg3 13 (by omega)]; exact hbd.1)) co_X2_isFound in_X2 mn_X9_121 im_X2_isFound se_X2_isFound rfl rfl ar_X2_isFound ⟨by decide, by decide, by decide, by decide⟩ rfl (Nat.le_of_ble_eq_true rfl) dX9_request_67 (a_dR ?_) a_nR
    refine a_bif_eq (tgt := 165) C dX9_request_70 rfl (fun h70 => ?_) (fun h70 => ?_)
    · skip
      exact absurd (by rw [hb13]; omega) h70
    · skip
      refine a_aload_n C dX9_request_73 rfl ?_
      refine a_get (ci := 10) (i := 4) (v := .ref (ad1 13)) C iw_X9 rfl (by decide) rfl fl_X9_47 rfl rfl dX9_request_74 ?_
      refine a_getN (ci := 3) (i := 3) (v := ii_v (g3 13 3)) C iw_X2 rfl (by decide) rfl fn_X9_125 rfl rfl dX9_request_77 ?_
      refine a_top (w := ii_v ((b : Nat) : Int)) (congrArg (fun q => ii_v q) hb13) ?_
      refine a_aload_n C dX9_request_80 rfl ?_
      refine a_get (ci := 10) (i := 0) (v := .ref (ad1 1)) C iw_X9 rfl (by decide) rfl fl_X9_12 rfl rfl dX9_request_81 ?_
      refine a_callL (o := 1) (As := []) C (c_lsize hl g3 (w.1, w.2.1 + 1, w.2.2) (Or.inl ⟨rfl, rfl, rfl⟩) (by omega)) co_Jx4a65c_size_8abf5 in_Jx4a65c ml_X9_87 im_Jx4a65c_size_8abf5 se_Jx4a65c_size_8abf5 rfl (Or.inl rfl) (by decide) ar_Jx4a65c_size_8abf5 ⟨by decide, by decide, by decide, by decide⟩ rfl (Nat.le_of_ble_eq_true rfl) dX9_request_84 (a_dR ?_) a_nR
      refine a_icmp_ge (tgt := 165) C dX9_request_87 rfl (by unfold ii_B; omega) (by unfold ii_B; omega) (fun h87 => ?_) (fun h87 => ?_)
      · skip
        omega
      · skip
        refine a_aload_n C dX9_request_90 rfl ?_
        refine a_get (ci := 10) (i := 0) (v := .ref (ad1 1)) C iw_X9 rfl (by decide) rfl fl_X9_12 rfl rfl dX9_request_91 ?_
        refine a_aload_n C dX9_request_94 rfl ?_
        refine a_get (ci := 10) (i := 4) (v := .ref (ad1 13)) C iw_X9 rfl (by decide) rfl fl_X9_47 rfl rfl dX9_request_95 ?_
        refine a_getN (ci := 3) (i := 3) (v := ii_v (g3 13 3)) C iw_X2 rfl (by decide) rfl fn_X9_125 rfl rfl dX9_request_98 ?_
        refine a_top (w := ii_v ((b : Nat) : Int)) (congrArg (fun q => ii_v q) hb13) ?_
        refine a_callL (o := 1) (As := [ii_v ((b : Nat) : Int)]) C (c_lget hl g3 (w.1, w.2.1 + 1, w.2.2) (Or.inl ⟨rfl, rfl, rfl⟩) (by omega) ((b : Nat) : Int) b rfl hb) co_Jx4a65c_get_915e3 in_Jx4a65c ml_X9_128 im_Jx4a65c_get_915e3 se_Jx4a65c_get_915e3 rfl (Or.inl rfl) (by decide) ar_Jx4a65c_get_915e3 ⟨by decide, by decide, by decide, by decide⟩ rfl (Nat.le_of_ble_eq_true rfl) dX9_request_101 (a_dR ?_) a_nR
        refine a_ccast (ci := 2) C rfl (ob_bus hb h4) cl_X9_96 dX9_request_104 ?_
        refine a_astore (L' := [(0, .ref (ad1 0)), (1, ii_v x), (2, ii_v y), (3, ii_v u), (4, ii_v z), (5, ii_v n), (6, ii_v ((w.2.1 : Nat) : Int)), (7, .ref (ad1 (300 + w.2.1))), (8, .ref (ad1 (200 + b)))]) C dX9_request_107 (by decide) rfl ?_
        refine a_aload C dX9_request_109 rfl ?_
        refine a_bipush C dX9_request_111 (by decide) ?_
        refine a_putN (ci := 7) (i := 8) C iw_X6 rfl (by decide) rfl tyX6 tyX6_ok nmX6 rfl rfl fn_X9_132 (ob_req (Nat.le_succ _)) rfl (by decide) rfl dX9_request_113 ?_
        obtain ⟨g4, eg4⟩ : ∃ F : Nat → Nat → Int, F = ii_up g3 (300 + w.2.1) 8 119 := ⟨_, rfl⟩
        rw [← eg4]
        have h13g4 : g4 13 = g3 13 := by rw [eg4, ii_up_row _ _ (by omega)]
        refine a_aload C dX9_request_116 rfl ?_
        refine a_aload C dX9_request_118 rfl ?_
        refine a_getN (ci := 2) (i := 0) (v := ii_v (g4 (200 + b) 0)) C iw_X1 rfl (by decide) rfl fn_X9_138 (ob_bus hb h4) rfl dX9_request_120 ?_
        refine a_top (w := ii_v (f (200 + b) 0)) (congrArg (fun q => ii_v q) (by rw [eg4, ii_up_row _ _ (by omega), hq3 _ (by omega) (by omega) (by omega) (by omega) (by omega) (by omega) (by omega) (by omega)])) ?_
        refine a_putN (ci := 7) (i := 10) C iw_X6 rfl (by decide) rfl tyX6 tyX6_ok nmX6 rfl rfl fn_X9_141 (ob_req (Nat.le_succ _)) rfl rfl rfl dX9_request_123 ?_
        obtain ⟨g5, eg5⟩ : ∃ F : Nat → Nat → Int, F = ii_up g4 (300 + w.2.1) 10 (f (200 + b) 0) := ⟨_, rfl⟩
        rw [← eg5]
        have h13g5 : g5 13 = g3 13 := by rw [eg5, ii_up_row _ _ (by omega)]; exact h13g4
        refine a_aload_n C dX9_request_126 rfl ?_
        refine a_get (ci := 10) (i := 4) (v := .ref (ad1 13)) C iw_X9 rfl (by decide) rfl fl_X9_47 rfl rfl dX9_request_127 ?_
        refine a_aload C dX9_request_130 rfl ?_
        refine a_getN (ci := 2) (i := 5) (v := .ref (ad1 (200 + b + 10))) C iw_X1 rfl (by decide) rfl fn_X9_142 (ob_bus hb h4) rfl dX9_request_132 ?_
        refine a_iload C dX9_request_135 rfl ?_
        refine a_callVN (o := 13) (As := [.ref (ad1 (200 + b + 10)), ii_v ((w.2.1 : Nat) : Int)]) C (c_layBest hl g5 (w.1, w.2.1 + 1, w.2.2) (ob_btour hb h4) (ar_btour hb h4) (ts_same (hD.2.2.2.2.1 b hb) (by rw [eg5, ii_up_row _ _ (by omega), eg4, ii_up_row _ _ (by omega)]; exact hq3 _ (by omega) (by omega) (by omega) (by omega) (by omega) (by omega) (by omega) (by omega)) (by rw [eg5, ii_up_row _ _ (by omega), eg4, ii_up_row _ _ (by omega)]; exact hq3 _ (by omega) (by omega) (by omega) (by omega) (by omega) (by omega) (by omega) (by omega))) (by omega) (hD.2.2.2.2.2 b hb).1 w.2.1 i j (by omega) hij hjl (by rw [h13g5]; exact hi13) (by rw [h13g5]; exact hj13)) co_X2_layBest in_X2 mn_X9_146 im_X2_layBest se_X2_layBest rfl rfl ar_X2_layBest ⟨by decide, by decide, by decide, by decide⟩ rfl (Nat.le_of_ble_eq_true rfl) dX9_request_137 (a_dF ?_) a_nF
        intro vg6 g6 hvg6
        obtain ⟨rfl, hsg6, hfg6⟩ := hvg6
        refine a_aload C dX9_request_140 rfl ?_
        refine a_getN (ci := 2) (i := 5) (v := .ref (ad1 (200 + b + 10))) C iw_X1 rfl (by decide) rfl fn_X9_142 (ob_bus hb h4) rfl dX9_request_142 ?_
        refine a_aload_n C dX9_request_145 rfl ?_
        refine a_get (ci := 10) (i := 4) (v := .ref (ad1 13)) C iw_X9 rfl (by decide) rfl fl_X9_47 rfl rfl dX9_request_146 ?_
        refine a_getN (ci := 3) (i := 2) (v := .ref (ad1 14)) C iw_X2 rfl (by decide) rfl fn_X9_150 rfl rfl dX9_request_149 ?_
        refine a_callVN (o := 200 + b + 10) (As := [.ref (ad1 14)]) C (c_copyFrom hl g6 (w.1, w.2.1 + 1, w.2.2) (ob_btour hb h4) (ar_btour hb h4) rfl rfl hsg6 ⟨by omega, by omega, by omega, by omega⟩) co_X7_copyFrom in_X7 mn_X9_153 im_X7_copyFrom se_X7_copyFrom rfl (ob_btour hb h4) ar_X7_copyFrom ⟨by decide, by decide, by decide, by decide⟩ rfl (Nat.le_of_ble_eq_true rfl) dX9_request_152 (a_dF ?_) a_nF
        intro vg7 g7 hvg7
        obtain ⟨rfl, hsg7, hfg7⟩ := hvg7
        have hTg7 : ∀ o, o ≠ 10 → o ≠ 11 → o ≠ 12 → o ≠ 13 → o ≠ 14 → o ≠ 24 → o ≠ 200 + b + 10 → o ≠ 200 + b + 10 + 10 → g7 o = (ii_up (ii_up (nq_T (wi_T f w.2.1 x y u z n) w.2.1) (300 + w.2.1) 8 119) (300 + w.2.1) 10 (f (200 + b) 0)) o := fun o h1 h2 h3 h4 h5 h6 h7 h8 => by rw [hfg7 o h7 h8, hfg6 o h5 h6, eg5]; exact up_cong (by rw [eg4]; exact up_cong (by rw [eg3]; funext i; unfold nq_T; by_cases hz : o = 301 + w.2.1; rw [if_pos hz, if_pos hz]; rw [if_neg hz, if_neg hz, hfg2 o h1 h2 h3 h4 h5 h6, eg1]))
        have hwg7 : g7 (200 + b) = f (200 + b) := by rw [hTg7 _ (by omega) (by omega) (by omega) (by omega) (by omega) (by omega) (by omega) (by omega), ii_up_row _ _ (by omega), ii_up_row _ _ (by omega), nq_row (by omega)]; exact wi_row (by omega)
        have h0g7 : g7 0 = f 0 := by rw [hTg7 _ (by omega) (by omega) (by omega) (by omega) (by omega) (by omega) (by omega) (by omega), ii_up_row _ _ (by omega), ii_up_row _ _ (by omega), nq_row (by omega)]; exact wi_row (by omega)
        have h4g7 : g7 4 = f 4 := by rw [hTg7 _ (by omega) (by omega) (by omega) (by omega) (by omega) (by omega) (by omega) (by omega), ii_up_row _ _ (by omega), ii_up_row _ _ (by omega), nq_row (by omega)]; exact wi_row (by omega)
        have hvp : pe_C g7 (vq_f (vw_f v w.2.1 x y u z n (f 0 6 + f 0 8) (pd_d x y u z * (100 + f 0 7) / 100)) (w.2.1 + 1)) (w.2.1 + 1) := pe_same (pe_up (pe_up (nq_pe (wi_pe hD.2.2.1 hnow hdt hwt h)) (by decide)) (by decide)) (fun o2 ho => hTg7 o2 (by omega) (by omega) (by omega) (by omega) (by omega) (by omega) (by omega) (by omega))
        refine a_aload_n C dX9_request_155 rfl ?_
        refine a_aload C dX9_request_156 rfl ?_
        refine a_callV (o := 0) (As := [.ref (ad1 (200 + b))]) C (c_due hl g7 (w.1, w.2.1 + 1, w.2.2) hr29 hvp hb h4 (by unfold pb_B; rw [hwg7]; exact hD.2.2.2.1 b hb) hsg7 (lay_ok (nr := w.2.1 + 1) (Nat.le_succ _) (fun k hk => Nat.le_trans ((hD.2.2.2.2.2 b hb).2 k hk) (Nat.le_succ _))) (by rw [h0g7]; exact ⟨hnow.1, by omega⟩) ne (by rw [h4g7]; exact hm) (by rw [lay_length hij hjl 0 (Nat.le_refl _)]; exact h60)) co_X9_makeDueStops in_X9 ml_X9_159 im_X9_makeDueStops se_X9_makeDueStops rfl rfl ar_X9_makeDueStops ⟨by decide, by decide, by decide, by decide⟩ rfl (Nat.le_of_ble_eq_true rfl) dX9_request_158 (a_dF ?_) a_nF
        intro vg8 g8 hvg8
        obtain ⟨rfl, hsg8, hfg8⟩ := hvg8
        rw [hwg7] at hsg8 hfg8
        refine a_pop C dX9_request_161 rfl ?_
        refine a_goto (tgt := 184) C dX9_request_162 rfl ?_
        refine a_iload C dX9_request_184 rfl ?_
        refine a_iret C ?_ (by decide) (by decide) dX9_request_186
        rw [hPost]
        refine ab_N_of ⟨rfl, hsg8, fun o2 h1 h2 h3 h4 h5 h6 h7 h8 => (hfg8 o2 h7 h8).trans (md_cong (P := fun o => (o ≠ 10 ∧ o ≠ 11 ∧ o ≠ 12 ∧ o ≠ 13 ∧ o ≠ 14 ∧ o ≠ 24 ∧ o ≠ 200 + b + 10 ∧ o ≠ 200 + b + 10 + 10)) ⟨by omega, by omega, by omega, fun r => by omega⟩ (fun o h => hTg7 o h.1 h.2.1 h.2.2.1 h.2.2.2.1 h.2.2.2.2.1 h.2.2.2.2.2.1 h.2.2.2.2.2.2.1 h.2.2.2.2.2.2.2) _ o2 ⟨h1, h2, h3, h4, h5, h6, h7, h8⟩), had⟩
  · skip
    omega
set_option maxRecDepth 20000 in
set_option maxHeartbeats 2000000 in
theorem c_requestR {l : Launch} {E : ab_E} {base : Nat} (hl : l.stackTraces = false) {ad : Nat → Nat} (f : Nat → Nat → Int) (w : Nat × Nat × Int64 × UInt64) {v : Nat → Nat → Int} {TS : Nat → List Nat} (hD : wd_C f w v TS) (x y u z n : Int) (zx : -2147483648 ≤ x ∧ x < 2147483648) (zy : -2147483648 ≤ y ∧ y < 2147483648) (zu : -2147483648 ≤ u ∧ u < 2147483648) (zz : -2147483648 ≤ z ∧ z < 2147483648) (zn : -2147483648 ≤ n ∧ n < 2147483648) (hnow : 0 ≤ f 0 6 ∧ f 0 6 ≤ 90000) (hdt : 0 ≤ f 0 7 ∧ f 0 7 ≤ 200) (hwt : 0 ≤ f 0 8 ∧ f 0 8 ≤ 60) (h : (((0 ≤ x ∧ x ≤ 20) ∧ (0 ≤ y ∧ y ≤ 20)) ∧ ((0 ≤ u ∧ u ≤ 20) ∧ (0 ≤ z ∧ z ≤ 20)) ∧ 1 ≤ n ∧ n ≤ 6)) (h2 : ¬ (x = u ∧ y = z)) (hr29 : w.2.1 < 30) (hPB : (pa_b (vw_f v w.2.1 x y u z n (f 0 6 + f 0 8) (pd_d x y u z * (100 + f 0 7) / 100)) (fun b => f (200 + b)) TS w.2.1 (f 0 6) w.1 (-1, f 13 4, f 13 5, 1000000, 1)).1 < 0)  : ab_M l E base yX9_request cX9_request 9 (some .int) 11 2 130 [.ref (ad 0), ii_v x, ii_v y, ii_v u, ii_v z, ii_v n] ab_x4 ad (f, w) (ab_N (w.1, w.2.1 + 1, w.2.2) (fun ov ad1 g => ov = some (ii_v ((w.2.1 : Nat) : Int)) ∧ (∀ o2, o2 ≠ 10 → o2 ≠ 11 → o2 ≠ 12 → o2 ≠ 13 → o2 ≠ 14 → o2 ≠ 24 → g o2 = ii_up (ii_up (nq_T (wi_T f w.2.1 x y u z n) w.2.1) (300 + w.2.1) 8 120) (300 + w.2.1) 9 (pa_b (vw_f v w.2.1 x y u z n (f 0 6 + f 0 8) (pd_d x y u z * (100 + f 0 7) / 100)) (fun b => f (200 + b)) TS w.2.1 (f 0 6) w.1 (-1, f 13 4, f 13 5, 1000000, 1)).2.2.2.2 o2) ∧ ∀ o, o ≠ 33 → o ≠ 301 + w.2.1 → ad1 o = ad o)) := by
  obtain ⟨Post, hPost⟩ : ∃ P : ab_P, P = (ab_N (w.1, w.2.1 + 1, w.2.2) (fun ov ad1 g => ov = some (ii_v ((w.2.1 : Nat) : Int)) ∧ (∀ o2, o2 ≠ 10 → o2 ≠ 11 → o2 ≠ 12 → o2 ≠ 13 → o2 ≠ 14 → o2 ≠ 24 → g o2 = ii_up (ii_up (nq_T (wi_T f w.2.1 x y u z n) w.2.1) (300 + w.2.1) 8 120) (300 + w.2.1) 9 (pa_b (vw_f v w.2.1 x y u z n (f 0 6 + f 0 8) (pd_d x y u z * (100 + f 0 7) / 100)) (fun b => f (200 + b)) TS w.2.1 (f 0 6) w.1 (-1, f 13 4, f 13 5, 1000000, 1)).2.2.2.2 o2) ∧ ∀ o, o ≠ 33 → o ≠ 301 + w.2.1 → ad1 o = ad o)) := ⟨_, rfl⟩
  rw [← hPost]
  refine ab_of RX9 [(0, .ref (ad 0)), (1, ii_v x), (2, ii_v y), (3, ii_v u), (4, ii_v z), (5, ii_v n)] hl (by decide) rfl (Nat.le_of_ble_eq_true rfl) rfl ?_
  intro p e s m args below meth c C T0 hnm
  refine a_aload_n C dX9_request_0 rfl ?_
  refine a_iload_n C dX9_request_1 rfl ?_
  refine a_iload_n C dX9_request_2 rfl ?_
  refine a_iload_n C dX9_request_3 rfl ?_
  refine a_iload C dX9_request_4 rfl ?_
  refine a_iload C dX9_request_6 rfl ?_
  refine a_callV (o := 0) (As := [ii_v x, ii_v y, ii_v u, ii_v z, ii_v n]) C (c_takeWish hl f w x y u z n zx zy zu zz zn ⟨hnow.1, by omega⟩ hdt hwt h h2) co_X9_takeWish in_X9 ml_X9_105 im_X9_takeWish se_X9_takeWish rfl rfl ar_X9_takeWish ⟨by decide, by decide, by decide, by decide⟩ rfl (Nat.le_of_ble_eq_true rfl) dX9_request_8 (a_dV ?_) a_nV
  obtain ⟨g1, eg1⟩ : ∃ F : Nat → Nat → Int, F = (wi_T f w.2.1 x y u z n) := ⟨_, rfl⟩
  rw [← eg1]
  have hD2 : wd_C g1 w (vw_f v w.2.1 x y u z n (f 0 6 + f 0 8) (pd_d x y u z * (100 + f 0 7) / 100)) TS := by rw [eg1]; exact wi_wd hD hnow hdt hwt h
  have h0g1 : g1 0 = f 0 := by rw [eg1]; exact wi_row (by omega)
  have hr := hD.1
  have h4 := hD.2.1
  have h13g1 : g1 13 = f 13 := by rw [eg1]; exact wi_row (by omega)
  refine a_aload_n C dX9_request_11 rfl ?_
  refine a_get (ci := 10) (i := 1) (v := .ref (ad 2)) C iw_X9 rfl (by decide) rfl fl_X9_19 rfl rfl dX9_request_12 ?_
  refine a_callVN (o := 2) (As := []) C (c_count hl g1 w hr) co_X0_count in_X0 mn_X9_108 im_X0_count se_X0_count rfl rfl ar_X0_count ⟨by decide, by decide, by decide, by decide⟩ rfl (Nat.le_of_ble_eq_true rfl) dX9_request_15 (a_dR ?_) a_nR
  refine a_istore (L' := [(0, .ref (ad 0)), (1, ii_v x), (2, ii_v y), (3, ii_v u), (4, ii_v z), (5, ii_v n), (6, ii_v ((w.2.1 : Nat) : Int))]) C dX9_request_18 (by decide) rfl ?_
  refine a_iload C dX9_request_20 rfl ?_
  refine a_bipush C dX9_request_22 (by decide) ?_
  refine a_icmp_lt (tgt := 37) C dX9_request_24 rfl (by unfold ii_B; omega) (by unfold ii_B; omega) (fun h24 => ?_) (fun h24 => ?_)
  · skip
    refine a_aload_n C dX9_request_37 rfl ?_
    refine a_get (ci := 10) (i := 4) (v := .ref (ad 13)) C iw_X9 rfl (by decide) rfl fl_X9_47 rfl rfl dX9_request_38 ?_
    refine a_aload_n C dX9_request_41 rfl ?_
    refine a_get (ci := 10) (i := 0) (v := .ref (ad 1)) C iw_X9 rfl (by decide) rfl fl_X9_12 rfl rfl dX9_request_42 ?_
    refine a_iload C dX9_request_45 rfl ?_
    refine a_aload_n C dX9_request_47 rfl ?_
    refine a_get (ci := 10) (i := 6) (v := ii_v (g1 0 6)) C iw_X9 rfl (by decide) rfl fl_X9_58 rfl rfl dX9_request_48 ?_
    refine a_top (w := ii_v (f 0 6)) (congrArg (fun q => ii_v q) (congrFun h0g1 6)) ?_
    refine a_callVN (o := 13) (As := [.ref (ad 1), ii_v ((w.2.1 : Nat) : Int), ii_v (f 0 6)]) C (c_tryAll hl g1 w hD2 w.2.1 (Nat.le_refl _) (f 0 6) ⟨hnow.1, by omega⟩) co_X2_tryAll in_X2 mn_X9_113 im_X2_tryAll se_X2_tryAll rfl rfl ar_X2_tryAll ⟨by decide, by decide, by decide, by decide⟩ rfl (Nat.le_of_ble_eq_true rfl) dX9_request_51 (a_dF ?_) a_nF
    intro vg2 g2 hvg2
    obtain ⟨rfl, hat, hbd, hfg2⟩ := hvg2
    rw [h13g1] at hat
    rw [pa_b_rows (B2 := fun b => f (200 + b)) (fun b hb => (by rw [eg1]; exact wi_row (by omega) : g1 (200 + b) = f (200 + b))) _] at hat
    refine a_aload_n C dX9_request_54 rfl ?_
    refine a_get (ci := 10) (i := 1) (v := .ref (ad 2)) C iw_X9 rfl (by decide) rfl fl_X9_19 rfl rfl dX9_request_55 ?_
    refine a_callVN (o := 2) (As := []) C (c_keepWish hl g2 w hr29 h4) co_X0_keepWish in_X0 mn_X9_117 im_X0_keepWish se_X0_keepWish rfl rfl ar_X0_keepWish ⟨by decide, by decide, by decide, by decide⟩ rfl (Nat.le_of_ble_eq_true rfl) dX9_request_58 (a_dN ?_) a_nN
    intro vg3 ad1 g3 hvg3
    obtain ⟨rfl, eg3, had⟩ := hvg3
    rw [show ad 0 = ad1 0 from (had 0 (by decide) (by omega)).symm]
    have hkg3 : ∀ o, o ≠ 301 + w.2.1 → g3 o = g2 o := fun o ho => by rw [eg3]; funext i; exact if_neg ho
    have hb13 : g3 13 3 < 0 := by rw [hkg3 13 (by omega), hat.1]; exact hPB
    have hw13 : g3 13 7 = (pa_b (vw_f v w.2.1 x y u z n (f 0 6 + f 0 8) (pd_d x y u z * (100 + f 0 7) / 100)) (fun b => f (200 + b)) TS w.2.1 (f 0 6) w.1 (-1, f 13 4, f 13 5, 1000000, 1)).2.2.2.2 := by rw [hkg3 13 (by omega)]; exact hat.2.2.2.2
    refine a_astore (L' := [(0, .ref (ad1 0)), (1, ii_v x), (2, ii_v y), (3, ii_v u), (4, ii_v z), (5, ii_v n), (6, ii_v ((w.2.1 : Nat) : Int)), (7, .ref (ad1 (300 + w.2.1)))]) C dX9_request_61 (by decide) rfl ?_
    refine a_aload_n C dX9_request_63 rfl ?_
    refine a_get (ci := 10) (i := 4) (v := .ref (ad1 13)) C iw_X9 rfl (by decide) rfl fl_X9_47 rfl rfl dX9_request_64 ?_
    refine a_callVN (o := 13) (As := []) C (c_isFound hl g3 (w.1, w.2.1 + 1, w.2.2) (by rw [hkg3 13 (by omega)]; exact hbd.1)) co_X2_isFound in_X2 mn_X9_121 im_X2_isFound se_X2_isFound rfl rfl ar_X2_isFound ⟨by decide, by decide, by decide, by decide⟩ rfl (Nat.le_of_ble_eq_true rfl) dX9_request_67 (a_dR ?_) a_nR
    refine a_bif_eq (tgt := 165) C dX9_request_70 rfl (fun h70 => ?_) (fun h70 => ?_)
    · skip
      refine a_aload C dX9_request_165 rfl ?_
      refine a_bipush C dX9_request_167 (by decide) ?_
      refine a_putN (ci := 7) (i := 8) C iw_X6 rfl (by decide) rfl tyX6 tyX6_ok nmX6 rfl rfl fn_X9_132 (ob_req (Nat.le_succ _)) rfl (by decide) rfl dX9_request_169 ?_
      obtain ⟨g4, eg4⟩ : ∃ F : Nat → Nat → Int, F = ii_up g3 (300 + w.2.1) 8 120 := ⟨_, rfl⟩
      rw [← eg4]
      have h13g4 : g4 13 = g3 13 := by rw [eg4, ii_up_row _ _ (by omega)]
      refine a_aload C dX9_request_172 rfl ?_
      refine a_aload_n C dX9_request_174 rfl ?_
      refine a_get (ci := 10) (i := 4) (v := .ref (ad1 13)) C iw_X9 rfl (by decide) rfl fl_X9_47 rfl rfl dX9_request_175 ?_
      refine a_getN (ci := 3) (i := 7) (v := ii_v (g4 13 7)) C iw_X2 rfl (by decide) rfl fn_X9_163 rfl rfl dX9_request_178 ?_
      refine a_top (w := ii_v ((pa_b (vw_f v w.2.1 x y u z n (f 0 6 + f 0 8) (pd_d x y u z * (100 + f 0 7) / 100)) (fun b => f (200 + b)) TS w.2.1 (f 0 6) w.1 (-1, f 13 4, f 13 5, 1000000, 1)).2.2.2.2)) (congrArg (fun q => ii_v q) ((congrFun h13g4 7).trans hw13)) ?_
      refine a_putN (ci := 7) (i := 9) C iw_X6 rfl (by decide) rfl tyX6 tyX6_ok nmX6 rfl rfl fn_X9_166 (ob_req (Nat.le_succ _)) rfl rfl rfl dX9_request_181 ?_
      obtain ⟨g5, eg5⟩ : ∃ F : Nat → Nat → Int, F = ii_up g4 (300 + w.2.1) 9 ((pa_b (vw_f v w.2.1 x y u z n (f 0 6 + f 0 8) (pd_d x y u z * (100 + f 0 7) / 100)) (fun b => f (200 + b)) TS w.2.1 (f 0 6) w.1 (-1, f 13 4, f 13 5, 1000000, 1)).2.2.2.2) := ⟨_, rfl⟩
      rw [← eg5]
      have h13g5 : g5 13 = g3 13 := by rw [eg5, ii_up_row _ _ (by omega)]; exact h13g4
      refine a_iload C dX9_request_184 rfl ?_
      refine a_iret C ?_ (by decide) (by decide) dX9_request_186
      rw [hPost]
      refine ab_N_of ⟨rfl, fun o2 h1 h2 h3 h4 h5 h6 => ?_, had⟩
      rw [eg5]
      refine up_cong ?_
      rw [eg4]
      refine up_cong ?_
      rw [eg3]
      funext i
      unfold nq_T
      by_cases hz : o2 = 301 + w.2.1
      · rw [if_pos hz, if_pos hz]
      · rw [if_neg hz, if_neg hz, hfg2 o2 h1 h2 h3 h4 h5 h6, eg1]
    · skip
      exact absurd h70 (by omega)
  · skip
    omega
set_option maxRecDepth 20000 in
set_option maxHeartbeats 2000000 in
theorem x3_request {l : Launch} {E : ab_E} {base : Nat} (hl : l.stackTraces = false) {ad : Nat → Nat} (f : Nat → Nat → Int) (w : Nat × Nat × Int64 × UInt64) {v : Nat → Nat → Int} {TS : Nat → List Nat} (hD : wd_C f w v TS) (x y u z n : Int) (zx : -2147483648 ≤ x ∧ x < 2147483648) (zy : -2147483648 ≤ y ∧ y < 2147483648) (zu : -2147483648 ≤ u ∧ u < 2147483648) (zz : -2147483648 ≤ z ∧ z < 2147483648) (zn : -2147483648 ≤ n ∧ n < 2147483648) (hnow : 0 ≤ f 0 6 ∧ f 0 6 ≤ 90000) (hdt : 0 ≤ f 0 7 ∧ f 0 7 ≤ 200) (hwt : 0 ≤ f 0 8 ∧ f 0 8 ≤ 60) (h : (((0 ≤ x ∧ x ≤ 20) ∧ (0 ≤ y ∧ y ≤ 20)) ∧ ((0 ≤ u ∧ u ≤ 20) ∧ (0 ≤ z ∧ z ≤ 20)) ∧ 1 ≤ n ∧ n ≤ 6)) (h2 : ¬ (x = u ∧ y = z)) (hr30 : w.2.1 = 30)  : ab_M l E base yX9_request cX9_request 9 (some .int) 11 1 6 [.ref (ad 0), ii_v x, ii_v y, ii_v u, ii_v z, ii_v n] ab_x4 ad (f, w) (ab_FX ad w "java/lang/IllegalStateException" (fun g => g = (wi_T f w.2.1 x y u z n))) := by
  obtain ⟨Post, hPost⟩ : ∃ P : ab_P, P = (ab_FX ad w "java/lang/IllegalStateException" (fun g => g = (wi_T f w.2.1 x y u z n))) := ⟨_, rfl⟩
  rw [← hPost]
  refine ab_of RX9 [(0, .ref (ad 0)), (1, ii_v x), (2, ii_v y), (3, ii_v u), (4, ii_v z), (5, ii_v n)] hl (by decide) rfl (Nat.le_of_ble_eq_true rfl) rfl ?_
  intro p e s m args below meth c C T0 hnm
  refine a_aload_n C dX9_request_0 rfl ?_
  refine a_iload_n C dX9_request_1 rfl ?_
  refine a_iload_n C dX9_request_2 rfl ?_
  refine a_iload_n C dX9_request_3 rfl ?_
  refine a_iload C dX9_request_4 rfl ?_
  refine a_iload C dX9_request_6 rfl ?_
  refine a_callV (o := 0) (As := [ii_v x, ii_v y, ii_v u, ii_v z, ii_v n]) C (c_takeWish hl f w x y u z n zx zy zu zz zn ⟨hnow.1, by omega⟩ hdt hwt h h2) co_X9_takeWish in_X9 ml_X9_105 im_X9_takeWish se_X9_takeWish rfl rfl ar_X9_takeWish ⟨by decide, by decide, by decide, by decide⟩ rfl (Nat.le_of_ble_eq_true rfl) dX9_request_8 (a_dV ?_) a_nV
  obtain ⟨g1, eg1⟩ : ∃ F : Nat → Nat → Int, F = (wi_T f w.2.1 x y u z n) := ⟨_, rfl⟩
  rw [← eg1]
  have hD2 : wd_C g1 w (vw_f v w.2.1 x y u z n (f 0 6 + f 0 8) (pd_d x y u z * (100 + f 0 7) / 100)) TS := by rw [eg1]; exact wi_wd hD hnow hdt hwt h
  have h0g1 : g1 0 = f 0 := by rw [eg1]; exact wi_row (by omega)
  have hr := hD.1
  have h4 := hD.2.1
  have h13g1 : g1 13 = f 13 := by rw [eg1]; exact wi_row (by omega)
  refine a_aload_n C dX9_request_11 rfl ?_
  refine a_get (ci := 10) (i := 1) (v := .ref (ad 2)) C iw_X9 rfl (by decide) rfl fl_X9_19 rfl rfl dX9_request_12 ?_
  refine a_callVN (o := 2) (As := []) C (c_count hl g1 w hr) co_X0_count in_X0 mn_X9_108 im_X0_count se_X0_count rfl rfl ar_X0_count ⟨by decide, by decide, by decide, by decide⟩ rfl (Nat.le_of_ble_eq_true rfl) dX9_request_15 (a_dR ?_) a_nR
  refine a_istore (L' := [(0, .ref (ad 0)), (1, ii_v x), (2, ii_v y), (3, ii_v u), (4, ii_v z), (5, ii_v n), (6, ii_v ((w.2.1 : Nat) : Int))]) C dX9_request_18 (by decide) rfl ?_
  refine a_iload C dX9_request_20 rfl ?_
  refine a_bipush C dX9_request_22 (by decide) ?_
  refine a_icmp_lt (tgt := 37) C dX9_request_24 rfl (by unfold ii_B; omega) (by unfold ii_B; omega) (fun h24 => ?_) (fun h24 => ?_)
  · skip
    omega
  · skip
    refine a_throw C T0 (by decide) cl_X9_91 in_ISE xw_ISE (is := 111) (text := "there are 30 requests") (by decide) dX9_request_27 dX9_request_30 dX9_request_31 dX9_request_33 dX9_request_36 ?_ ⟨by decide, by decide, by decide⟩ (Nat.le_of_ble_eq_true rfl)
    rw [hPost]
    exact ab_FX_of eg1
set_option maxRecDepth 20000 in
set_option maxHeartbeats 2000000 in
theorem x_request {l : Launch} {E : ab_E} {base : Nat} (hl : l.stackTraces = false) {ad : Nat → Nat} (f : Nat → Nat → Int) (w : Nat × Nat × Int64 × UInt64) (x y u z n : Int) (zx : -2147483648 ≤ x ∧ x < 2147483648) (zy : -2147483648 ≤ y ∧ y < 2147483648) (zu : -2147483648 ≤ u ∧ u < 2147483648) (zz : -2147483648 ≤ z ∧ z < 2147483648) (zn : -2147483648 ≤ n ∧ n < 2147483648) (h : ¬ (((0 ≤ x ∧ x ≤ 20) ∧ (0 ≤ y ∧ y ≤ 20)) ∧ ((0 ≤ u ∧ u ≤ 20) ∧ (0 ≤ z ∧ z ≤ 20)) ∧ 1 ≤ n ∧ n ≤ 6)) : ab_M l E base yX9_request cX9_request 9 (some .int) 9 1 6 [.ref (ad 0), ii_v x, ii_v y, ii_v u, ii_v z, ii_v n] ab_x4 ad (f, w) (ab_T "java/lang/IllegalArgumentException" ab_x4 ad (f, w)) := by
  obtain ⟨Post, hPost⟩ : ∃ P : ab_P, P = (ab_T "java/lang/IllegalArgumentException" ab_x4 ad (f, w)) := ⟨_, rfl⟩
  rw [← hPost]
  refine ab_of RX9 [(0, .ref (ad 0)), (1, ii_v x), (2, ii_v y), (3, ii_v u), (4, ii_v z), (5, ii_v n)] hl (by decide) rfl (Nat.le_of_ble_eq_true rfl) rfl ?_
  intro p e s m args below meth c C T0 hnm
  refine a_aload_n C dX9_request_0 rfl ?_
  refine a_iload_n C dX9_request_1 rfl ?_
  refine a_iload_n C dX9_request_2 rfl ?_
  refine a_iload_n C dX9_request_3 rfl ?_
  refine a_iload C dX9_request_4 rfl ?_
  refine a_iload C dX9_request_6 rfl ?_
  refine a_callV (o := 0) (As := [ii_v x, ii_v y, ii_v u, ii_v z, ii_v n]) C (x_takeWish hl f w x y u z n zx zy zu zz zn h) co_X9_takeWish in_X9 ml_X9_105 im_X9_takeWish se_X9_takeWish rfl rfl ar_X9_takeWish ⟨by decide, by decide, by decide, by decide⟩ rfl (Nat.le_of_ble_eq_true rfl) dX9_request_8 a_nT (a_dT ?_)
  refine a_out C T0 ?_ (by decide) (by decide)
  rw [hPost]
  exact ⟨rfl, rfl, rfl, rfl⟩
set_option maxRecDepth 20000 in
set_option maxHeartbeats 2000000 in
theorem x2_request {l : Launch} {E : ab_E} {base : Nat} (hl : l.stackTraces = false) {ad : Nat → Nat} (f : Nat → Nat → Int) (w : Nat × Nat × Int64 × UInt64) (x y u z n : Int) (zx : -2147483648 ≤ x ∧ x < 2147483648) (zy : -2147483648 ≤ y ∧ y < 2147483648) (zu : -2147483648 ≤ u ∧ u < 2147483648) (zz : -2147483648 ≤ z ∧ z < 2147483648) (zn : -2147483648 ≤ n ∧ n < 2147483648) (h : (((0 ≤ x ∧ x ≤ 20) ∧ (0 ≤ y ∧ y ≤ 20)) ∧ ((0 ≤ u ∧ u ≤ 20) ∧ (0 ≤ z ∧ z ≤ 20)) ∧ 1 ≤ n ∧ n ≤ 6)) (h2 : x = u ∧ y = z) : ab_M l E base yX9_request cX9_request 9 (some .int) 9 1 6 [.ref (ad 0), ii_v x, ii_v y, ii_v u, ii_v z, ii_v n] ab_x4 ad (f, w) (ab_T "java/lang/UnsupportedOperationException" ab_x4 ad (f, w)) := by
  obtain ⟨Post, hPost⟩ : ∃ P : ab_P, P = (ab_T "java/lang/UnsupportedOperationException" ab_x4 ad (f, w)) := ⟨_, rfl⟩
  rw [← hPost]
  refine ab_of RX9 [(0, .ref (ad 0)), (1, ii_v x), (2, ii_v y), (3, ii_v u), (4, ii_v z), (5, ii_v n)] hl (by decide) rfl (Nat.le_of_ble_eq_true rfl) rfl ?_
  intro p e s m args below meth c C T0 hnm
  refine a_aload_n C dX9_request_0 rfl ?_
  refine a_iload_n C dX9_request_1 rfl ?_
  refine a_iload_n C dX9_request_2 rfl ?_
  refine a_iload_n C dX9_request_3 rfl ?_
  refine a_iload C dX9_request_4 rfl ?_
  refine a_iload C dX9_request_6 rfl ?_
  refine a_callV (o := 0) (As := [ii_v x, ii_v y, ii_v u, ii_v z, ii_v n]) C (x_takeWish2 hl f w x y u z n zx zy zu zz zn h h2) co_X9_takeWish in_X9 ml_X9_105 im_X9_takeWish se_X9_takeWish rfl rfl ar_X9_takeWish ⟨by decide, by decide, by decide, by decide⟩ rfl (Nat.le_of_ble_eq_true rfl) dX9_request_8 a_nT (a_dT ?_)
  refine a_out C T0 ?_ (by decide) (by decide)
  rw [hPost]
  exact ⟨rfl, rfl, rfl, rfl⟩
