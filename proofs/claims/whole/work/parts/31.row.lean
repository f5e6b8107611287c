/-! The row: what its calls are made of. -/
/-- a minute of the bus b, whose tour is S -/
def sp_T (f v : Nat → Nat → Int) (b : Nat) (S : List Nat) : Nat → Nat → Int :=
  if S = [] then (if f (200 + b) 6 ≠ f (200 + b) 3 ∨ f (200 + b) 7 ≠ f (200 + b) 4 then dr_T f (200 + b) (f (200 + b) 3) (f (200 + b) 4) else ii_up f (200 + b) 8 (min (f (200 + b) 2) (f (200 + b) 8 + 5)))
  else dr_T f (200 + b) (v 0 (S.getD 0 0)) (v 1 (S.getD 0 0))
/-- the bus b makes the stop q -/
def mk_T (f : Nat → Nat → Int) (b q : Nat) : Nat → Nat → Int :=
  ii_up (ii_up (ii_up (ii_up (ii_up (if q % 2 = 0 then ii_up (ii_up (ii_up f (300 + q / 2) 8 114) (300 + q / 2) 11 (f 0 6)) (200 + b) 9 (f (200 + b) 9 + f (300 + q / 2) 4)
    else ii_up (ii_up (ii_up f (300 + q / 2) 8 100) (300 + q / 2) 12 (f 0 6)) (200 + b) 9 (f (200 + b) 9 - f (300 + q / 2) 4)) 5 (f 4 4).toNat (f (200 + b) 0)) 6 (f 4 4).toNat ((q / 2 : Nat) : Int)) 7 (f 4 4).toNat (f 0 6)) 8 (f 4 4).toNat (f (200 + b) 10)) 4 4 (f 4 4 + 1)
/-- the sign of a fault -/
def sg_f (u : Int) : Int := if u = 2 then 119 else if u = 3 then 100 else if u = 4 then 98 else 115
/-- how many of the first stops are at the place -/
def du_n (v : Nat → Nat → Int) (x y : Int) : List Nat → Nat
  | [] => 0
  | q :: S => if pd_d x y (v 0 q) (v 1 q) ≤ 0 then du_n v x y S + 1 else 0
def md_T (f : Nat → Nat → Int) (b : Nat) (S : List Nat) : Nat → Nat → Int := S.foldl (fun g q => mk_T g b q) f
/-- the numbers of the requests behind the stop q, made at u -/
def va_f (v : Nat → Nat → Int) (q : Nat) (u : Int) : Nat → Nat → Int := fun c i => if c = 5 ∧ i = q / 2 ∧ q % 2 = 0 then u else v c i
section MK
variable {f g v : Nat → Nat → Int} {b q o i nr r : Nat}
theorem mk_row (h : o ≤ 3 ∨ 9 ≤ o) (hb : o ≠ 200 + b) (hr : o ≠ 300 + q / 2) : mk_T f b q o = f o := by
  unfold mk_T
  rw [ii_up_row _ _ (by omega), ii_up_row _ _ (by omega), ii_up_row _ _ (by omega), ii_up_row _ _ (by omega), ii_up_row _ _ (by omega)]
  split
  · rw [ii_up_row _ _ hb, ii_up_row _ _ hr, ii_up_row _ _ hr]
  · rw [ii_up_row _ _ hb, ii_up_row _ _ hr, ii_up_row _ _ hr]
theorem mk_bus (hb : b < 90) (hi : i ≠ 9) : mk_T f b q (200 + b) i = f (200 + b) i := by
  unfold mk_T
  rw [ii_up_o _ _ _ (by omega), ii_up_o _ _ _ (by omega), ii_up_o _ _ _ (by omega), ii_up_o _ _ _ (by omega), ii_up_o _ _ _ (by omega)]
  split
  · rw [ii_up_k _ _ hi, ii_up_o _ _ _ (by omega), ii_up_o _ _ _ (by omega)]
  · rw [ii_up_k _ _ hi, ii_up_o _ _ _ (by omega), ii_up_o _ _ _ (by omega)]
theorem mk_44 : mk_T f b q 4 4 = f 4 4 + 1 := ii_up_s _ _ _ _
theorem mk_req (hb : b < 90) (h8 : i ≠ 8) (h11 : i ≠ 11) (h12 : i ≠ 12) : mk_T f b q (300 + r) i = f (300 + r) i := by
  unfold mk_T
  rw [ii_up_o _ _ _ (by omega), ii_up_o _ _ _ (by omega), ii_up_o _ _ _ (by omega), ii_up_o _ _ _ (by omega), ii_up_o _ _ _ (by omega)]
  by_cases hr : 300 + r = 300 + q / 2
  · rw [hr]
    split
    · rw [ii_up_o _ _ _ (by omega), ii_up_k _ _ h11, ii_up_k _ _ h8]
    · rw [ii_up_o _ _ _ (by omega), ii_up_k _ _ h12, ii_up_k _ _ h8]
  · split
    · rw [ii_up_o _ _ _ (by omega), ii_up_o _ _ _ hr, ii_up_o _ _ _ hr]
    · rw [ii_up_o _ _ _ (by omega), ii_up_o _ _ _ hr, ii_up_o _ _ _ hr]
theorem mk_req11 (hb : b < 90) : mk_T f b q (300 + r) 11 = if r = q / 2 ∧ q % 2 = 0 then f 0 6 else f (300 + r) 11 := by
  unfold mk_T
  rw [ii_up_o _ _ _ (by omega), ii_up_o _ _ _ (by omega), ii_up_o _ _ _ (by omega), ii_up_o _ _ _ (by omega), ii_up_o _ _ _ (by omega)]
  by_cases h2 : q % 2 = 0
  · rw [if_pos h2, ii_up_o _ _ _ (by omega)]
    by_cases hr : r = q / 2
    · rw [if_pos ⟨hr, h2⟩, hr, ii_up_s]
    · rw [if_neg (fun z => hr z.1), ii_up_o _ _ _ (by omega), ii_up_o _ _ _ (by omega)]
  · rw [if_neg h2, if_neg (fun z => h2 z.2), ii_up_o _ _ _ (by omega)]
    by_cases hr : 300 + r = 300 + q / 2
    · rw [hr, ii_up_k _ _ (by decide), ii_up_k _ _ (by decide)]
    · rw [ii_up_o _ _ _ hr, ii_up_o _ _ _ hr]
theorem mk_pe (hb : b < 90) (hnow : 0 ≤ f 0 6 ∧ f 0 6 ≤ 100000) (h : pe_C f v nr) : pe_C (mk_T f b q) (va_f v q (f 0 6)) nr := by
  refine ⟨fun q2 h2 => ?_, fun r hr => ?_⟩
  · have h1 := h.1 q2 h2
    unfold pd_x pd_y at h1 ⊢
    rw [mk_req hb (by decide) (by decide) (by decide), mk_req hb (by decide) (by decide) (by decide), mk_req hb (by decide) (by decide) (by decide), mk_req hb (by decide) (by decide) (by decide)]
    exact h1
  · have h1 := h.2 r hr
    rw [mk_req hb (by decide) (by decide) (by decide), mk_req hb (by decide) (by decide) (by decide), mk_req hb (by decide) (by decide) (by decide), mk_req11 hb]
    obtain ⟨p1, p2, p3, p4, p5, p6, p7, p8⟩ := h1
    refine ⟨p1, p2, p3, ?_, p5, p6, p7, ?_⟩
    · unfold va_f
      by_cases hq : r = q / 2 ∧ q % 2 = 0
      · rw [if_pos hq, if_pos ⟨rfl, hq⟩]
      · rw [if_neg hq, if_neg (fun z => hq z.2)]
        exact p4
    · unfold va_f
      split
      · exact hnow
      · exact p8
theorem up_cong {k : Nat} {u : Int} {o2 : Nat} (h : g o2 = f o2) : ii_up g o k u o2 = ii_up f o k u o2 := by
  funext j
  unfold ii_up
  by_cases q : o2 = o
  · subst q
    rw [if_pos rfl, if_pos rfl, h]
  · rw [if_neg q, if_neg q, h]
theorem mk_cong (h : ∀ o, o ≠ 200 + b + 10 → o ≠ 200 + b + 10 + 10 → g o = f o) (hb : b < 10) (hq : q / 2 < 1000000) {o2 : Nat} (h1 : o2 ≠ 200 + b + 10) (h2 : o2 ≠ 200 + b + 10 + 10) : mk_T g b q o2 = mk_T f b q o2 := by
  unfold mk_T
  rw [h 4 (by omega) (by omega), h 0 (by omega) (by omega), h (200 + b) (by omega) (by omega), h (300 + q / 2) (by omega) (by omega)]
  refine up_cong (up_cong (up_cong (up_cong (up_cong ?_))))
  split
  · exact up_cong (up_cong (up_cong (h o2 h1 h2)))
  · exact up_cong (up_cong (up_cong (h o2 h1 h2)))
theorem md_take {S : List Nat} {k : Nat} (hk : k < S.length) : md_T f b (S.take (k + 1)) = mk_T (md_T f b (S.take k)) b (S.getD k 0) := by
  unfold md_T
  rw [List.take_add_one, List.foldl_append, List.getD_eq_getElem?_getD, List.getElem?_eq_getElem hk]
  rfl
end MK
set_option maxRecDepth 20000 in
set_option maxHeartbeats 2000000 in
theorem c_planned {l : Launch} {E : ab_E} {base : Nat} (hl : l.stackTraces = false) {ad : Nat → Nat} (f : Nat → Nat → Int) (w : Nat × Nat × Int64 × UInt64) (hr : w.2.1 ≤ 30) {v : Nat → Nat → Int} (hv : pe_C f v w.2.1) {b : Nat} (hb : b < w.1) (h4 : w.1 ≤ 4) (hB : pb_B f (200 + b)) {S : List Nat} (hS : ts_I f (200 + b + 10) S) (hq : ∀ j, j < S.length → S.getD j 0 / 2 ≤ w.2.1) (hnow : 0 ≤ f 0 6 ∧ f 0 6 ≤ 100000) (q : Nat) (hq64 : q < 64) (hm : q ∈ S) : ab_M l E base yX9_plannedTime cX9_plannedTime 3 (some .int) 8 0 0 [.ref (ad 0), .ref (ad (200 + b)), ii_v ((q : Nat) : Int)] ab_x4 ad (f, w) (ab_F ad w (fun r g => r = some (ii_v ((pl_tm v S (f (200 + b) 6) (f (200 + b) 7) (f 0 6)).getD (S.idxOf q) 0)) ∧ ∀ o2, o2 ≠ 10 → g o2 = f o2)) := by
  obtain ⟨Post, hPost⟩ : ∃ P : ab_P, P = (ab_F ad w (fun r g => r = some (ii_v ((pl_tm v S (f (200 + b) 6) (f (200 + b) 7) (f 0 6)).getD (S.idxOf q) 0)) ∧ ∀ o2, o2 ≠ 10 → g o2 = f o2)) := ⟨_, rfl⟩
  rw [← hPost]
  refine ab_of RX9 [(0, .ref (ad 0)), (1, .ref (ad (200 + b))), (2, ii_v ((q : Nat) : Int))] hl (by decide) rfl (Nat.le_of_ble_eq_true rfl) rfl ?_
  intro p e s m args below meth c C T0 hnm
  obtain ⟨hc, h8, -, -⟩ := id hS
  refine a_aload_n C dX9_plannedTime_0 rfl ?_
  refine a_get (ci := 10) (i := 3) (v := .ref (ad 9)) C iw_X9 rfl (by decide) rfl fl_X9_35 rfl rfl dX9_plannedTime_1 ?_
  refine a_aload_n C dX9_plannedTime_4 rfl ?_
  refine a_aload_n C dX9_plannedTime_5 rfl ?_
  refine a_getN (ci := 2) (i := 5) (v := .ref (ad (200 + b + 10))) C iw_X1 rfl (by decide) rfl fn_X9_142 (ob_bus hb h4) rfl dX9_plannedTime_6 ?_
  refine a_aload_n C dX9_plannedTime_9 rfl ?_
  refine a_get (ci := 10) (i := 6) (v := ii_v (f 0 6)) C iw_X9 rfl (by decide) rfl fl_X9_58 rfl rfl dX9_plannedTime_10 ?_
  refine a_callVN (o := 9) (As := [.ref (ad (200 + b)), .ref (ad (200 + b + 10)), ii_v (f 0 6)]) C (c_clock hl f w hr hv (ob_bus hb h4) hB (ob_btour hb h4) (ar_btour hb h4) hS hq (f 0 6) hnow) co_X3_clock in_X3 mn_X9_360 im_X3_clock se_X3_clock rfl rfl ar_X3_clock ⟨by decide, by decide, by decide, by decide⟩ rfl (Nat.le_of_ble_eq_true rfl) dX9_plannedTime_13 (a_dF ?_) a_nF
  intro vg1 g1 hvg1
  obtain ⟨rfl, hTg1, hfg1⟩ := hvg1
  have hi := gd_idx (d := 0) hm
  refine a_aload_n C dX9_plannedTime_16 rfl ?_
  refine a_get (ci := 10) (i := 3) (v := .ref (ad 9)) C iw_X9 rfl (by decide) rfl fl_X9_35 rfl rfl dX9_plannedTime_17 ?_
  refine a_aload_n C dX9_plannedTime_20 rfl ?_
  refine a_getN (ci := 2) (i := 5) (v := .ref (ad (200 + b + 10))) C iw_X1 rfl (by decide) rfl fn_X9_142 (ob_bus hb h4) rfl dX9_plannedTime_21 ?_
  refine a_iload_n C dX9_plannedTime_24 rfl ?_
  refine a_callVN (o := 200 + b + 10) (As := [ii_v ((q : Nat) : Int)]) C (c_indexOf hl g1 w (ob_btour hb h4) (ar_btour hb h4) (ts_same hS (hfg1 _ (by omega)) (hfg1 _ (by omega))) q hq64) co_X7_indexOf in_X7 mn_X9_364 im_X7_indexOf se_X7_indexOf rfl (ob_btour hb h4) ar_X7_indexOf ⟨by decide, by decide, by decide, by decide⟩ rfl (Nat.le_of_ble_eq_true rfl) dX9_plannedTime_25 (a_dR ?_) a_nR
  rw [if_pos hm]
  refine a_callVN (o := 9) (As := [ii_v (((S.idxOf q) : Nat) : Int)]) C (c_timeAt hl g1 w _ (S.idxOf q) rfl (by omega) _ (hTg1 _ hi.1)) co_X3_timeAt in_X3 mn_X9_367 im_X3_timeAt se_X3_timeAt rfl rfl ar_X3_timeAt ⟨by decide, by decide, by decide, by decide⟩ rfl (Nat.le_of_ble_eq_true rfl) dX9_plannedTime_28 (a_dR ?_) a_nR
  refine a_iret C ?_ (by decide) (by decide) dX9_plannedTime_31
  rw [hPost]
  exact ab_F_of ⟨rfl, hfg1⟩
set_option maxRecDepth 20000 in
set_option maxHeartbeats 2000000 in
theorem c_spend {l : Launch} {E : ab_E} {base : Nat} (hl : l.stackTraces = false) {ad : Nat → Nat} (f : Nat → Nat → Int) (w : Nat × Nat × Int64 × UInt64) (hr : w.2.1 ≤ 30) {v : Nat → Nat → Int} (hv : pe_C f v w.2.1) {b : Nat} (hb : b < w.1) (h4 : w.1 ≤ 4) (hB : pb_B f (200 + b)) {S : List Nat} (hS : ts_I f (200 + b + 10) S) (hq : ∀ j, j < S.length → S.getD j 0 / 2 ≤ w.2.1) (hcap : 0 ≤ f (200 + b) 2 ∧ f (200 + b) 2 ≤ 1000) : ab_M l E base yX9_spendMinute cX9_spendMinute 3 none 8 0 0 [.ref (ad 0), .ref (ad (200 + b))] ab_x4 ad (f, w) (ab_V ab_x4 ad (sp_T f v b S, w)) := by
  obtain ⟨Post, hPost⟩ : ∃ P : ab_P, P = (ab_V ab_x4 ad (sp_T f v b S, w)) := ⟨_, rfl⟩
  rw [← hPost]
  refine ab_of RX9 [(0, .ref (ad 0)), (1, .ref (ad (200 + b)))] hl (by decide) rfl (Nat.le_of_ble_eq_true rfl) rfl ?_
  intro p e s m args below meth c C T0 hnm
  obtain ⟨hc, h8, -, hb64⟩ := id hS
  obtain ⟨hB1, hB3, hB4, hB6, hB7, hB8, hB9⟩ := id hB
  refine a_aload_n C dX9_spendMinute_0 rfl ?_
  refine a_getN (ci := 2) (i := 5) (v := .ref (ad (200 + b + 10))) C iw_X1 rfl (by decide) rfl fn_X9_142 (ob_bus hb h4) rfl dX9_spendMinute_1 ?_
  refine a_getN (ci := 8) (i := 1) (v := ii_v (f (200 + b + 10) 1)) C iw_X7 rfl (by decide) rfl fn_X9_224 (ob_btour hb h4) rfl dX9_spendMinute_4 ?_
  rw [hc]
  refine a_if_le (tgt := 42) C dX9_spendMinute_7 rfl (by unfold ii_B; omega) (fun h7 => ?_) (fun h7 => ?_)
  · skip
    have hS0 : S = [] := List.eq_nil_of_length_eq_zero (by omega)
    refine a_aload_n C dX9_spendMinute_42 rfl ?_
    refine a_getN (ci := 2) (i := 6) (v := ii_v (f (200 + b) 6)) C iw_X1 rfl (by decide) rfl fn_X9_257 (ob_bus hb h4) rfl dX9_spendMinute_43 ?_
    refine a_aload_n C dX9_spendMinute_46 rfl ?_
    refine a_getN (ci := 2) (i := 3) (v := ii_v (f (200 + b) 3)) C iw_X1 rfl (by decide) rfl fn_X9_378 (ob_bus hb h4) rfl dX9_spendMinute_47 ?_
    refine a_icmp_ne (tgt := 64) C dX9_spendMinute_50 rfl (by unfold ii_B; omega) (by unfold ii_B; omega) (fun h50 => ?_) (fun h50 => ?_)
    · skip
      refine a_aload_n C dX9_spendMinute_64 rfl ?_
      refine a_aload_n C dX9_spendMinute_65 rfl ?_
      refine a_getN (ci := 2) (i := 3) (v := ii_v (f (200 + b) 3)) C iw_X1 rfl (by decide) rfl fn_X9_378 (ob_bus hb h4) rfl dX9_spendMinute_66 ?_
      refine a_aload_n C dX9_spendMinute_69 rfl ?_
      refine a_getN (ci := 2) (i := 4) (v := ii_v (f (200 + b) 4)) C iw_X1 rfl (by decide) rfl fn_X9_381 (ob_bus hb h4) rfl dX9_spendMinute_70 ?_
      refine a_callVN (o := 200 + b) (As := [ii_v (f (200 + b) 3), ii_v (f (200 + b) 4)]) C (c_drive hl f w (ob_bus hb h4) hB (f (200 + b) 3) (f (200 + b) 4) hB3 hB4) co_X1_driveTowards in_X1 mn_X9_374 im_X1_driveTowards se_X1_driveTowards rfl (ob_bus hb h4) ar_X1_driveTowards ⟨by decide, by decide, by decide, by decide⟩ rfl (Nat.le_of_ble_eq_true rfl) dX9_spendMinute_73 (a_dV ?_) a_nV
      obtain ⟨g1, eg1⟩ : ∃ F : Nat → Nat → Int, F = dr_T f (200 + b) (f (200 + b) 3) (f (200 + b) 4) := ⟨_, rfl⟩
      rw [← eg1]
      refine a_goto (tgt := 96) C dX9_spendMinute_76 rfl ?_
      refine a_vret C ?_ (by decide) (by decide) dX9_spendMinute_96
      rw [hPost]
      refine ⟨rfl, rfl, rfl, congrArg (fun q => (q, w)) ?_⟩
      rw [eg1]
      unfold sp_T
      (first | rw [if_pos hS0] | rw [if_neg hS0]); (first | done | rw [if_pos (show f (200 + b) 6 ≠ f (200 + b) 3 ∨ f (200 + b) 7 ≠ f (200 + b) 4 by omega)] | rw [if_neg (show ¬ (f (200 + b) 6 ≠ f (200 + b) 3 ∨ f (200 + b) 7 ≠ f (200 + b) 4) by omega)])
    · skip
      refine a_aload_n C dX9_spendMinute_53 rfl ?_
      refine a_getN (ci := 2) (i := 7) (v := ii_v (f (200 + b) 7)) C iw_X1 rfl (by decide) rfl fn_X9_260 (ob_bus hb h4) rfl dX9_spendMinute_54 ?_
      refine a_aload_n C dX9_spendMinute_57 rfl ?_
      refine a_getN (ci := 2) (i := 4) (v := ii_v (f (200 + b) 4)) C iw_X1 rfl (by decide) rfl fn_X9_381 (ob_bus hb h4) rfl dX9_spendMinute_58 ?_
      refine a_icmp_eq (tgt := 79) C dX9_spendMinute_61 rfl (by unfold ii_B; omega) (by unfold ii_B; omega) (fun h61 => ?_) (fun h61 => ?_)
      · skip
        refine a_aload_n C dX9_spendMinute_79 rfl ?_
        refine a_aload_n C dX9_spendMinute_80 rfl ?_
        refine a_getN (ci := 2) (i := 2) (v := ii_v (f (200 + b) 2)) C iw_X1 rfl (by decide) rfl fn_X9_384 (ob_bus hb h4) rfl dX9_spendMinute_81 ?_
        refine a_aload_n C dX9_spendMinute_84 rfl ?_
        refine a_getN (ci := 2) (i := 8) (v := ii_v (f (200 + b) 8)) C iw_X1 rfl (by decide) rfl fn_X9_263 (ob_bus hb h4) rfl dX9_spendMinute_85 ?_
        refine a_iconst C dX9_spendMinute_88 ?_
        refine a_iadd C dX9_spendMinute_89 ?_
        refine a_min C ml_X9_387 dX9_spendMinute_90 (by decide) (Nat.le_of_ble_eq_true rfl) (by decide) (by unfold ii_B; omega) (by unfold ii_B; omega) ?_
        refine a_putN (ci := 2) (i := 8) C iw_X1 rfl (by decide) rfl tyX1 tyX1_ok nmX1 rfl rfl fn_X9_263 (ob_bus hb h4) rfl rfl rfl dX9_spendMinute_93 ?_
        obtain ⟨g2, eg2⟩ : ∃ F : Nat → Nat → Int, F = ii_up f (200 + b) 8 (min (f (200 + b) 2) ((f (200 + b) 8) + 5)) := ⟨_, rfl⟩
        rw [← eg2]
        refine a_vret C ?_ (by decide) (by decide) dX9_spendMinute_96
        rw [hPost]
        refine ⟨rfl, rfl, rfl, congrArg (fun q => (q, w)) ?_⟩
        rw [eg2]
        unfold sp_T
        (first | rw [if_pos hS0] | rw [if_neg hS0]); (first | done | rw [if_pos (show f (200 + b) 6 ≠ f (200 + b) 3 ∨ f (200 + b) 7 ≠ f (200 + b) 4 by omega)] | rw [if_neg (show ¬ (f (200 + b) 6 ≠ f (200 + b) 3 ∨ f (200 + b) 7 ≠ f (200 + b) 4) by omega)])
      · skip
        refine a_aload_n C dX9_spendMinute_64 rfl ?_
        refine a_aload_n C dX9_spendMinute_65 rfl ?_
        refine a_getN (ci := 2) (i := 3) (v := ii_v (f (200 + b) 3)) C iw_X1 rfl (by decide) rfl fn_X9_378 (ob_bus hb h4) rfl dX9_spendMinute_66 ?_
        refine a_aload_n C dX9_spendMinute_69 rfl ?_
        refine a_getN (ci := 2) (i := 4) (v := ii_v (f (200 + b) 4)) C iw_X1 rfl (by decide) rfl fn_X9_381 (ob_bus hb h4) rfl dX9_spendMinute_70 ?_
        refine a_callVN (o := 200 + b) (As := [ii_v (f (200 + b) 3), ii_v (f (200 + b) 4)]) C (c_drive hl f w (ob_bus hb h4) hB (f (200 + b) 3) (f (200 + b) 4) hB3 hB4) co_X1_driveTowards in_X1 mn_X9_374 im_X1_driveTowards se_X1_driveTowards rfl (ob_bus hb h4) ar_X1_driveTowards ⟨by decide, by decide, by decide, by decide⟩ rfl (Nat.le_of_ble_eq_true rfl) dX9_spendMinute_73 (a_dV ?_) a_nV
        obtain ⟨g3, eg3⟩ : ∃ F : Nat → Nat → Int, F = dr_T f (200 + b) (f (200 + b) 3) (f (200 + b) 4) := ⟨_, rfl⟩
        rw [← eg3]
        refine a_goto (tgt := 96) C dX9_spendMinute_76 rfl ?_
        refine a_vret C ?_ (by decide) (by decide) dX9_spendMinute_96
        rw [hPost]
        refine ⟨rfl, rfl, rfl, congrArg (fun q => (q, w)) ?_⟩
        rw [eg3]
        unfold sp_T
        (first | rw [if_pos hS0] | rw [if_neg hS0]); (first | done | rw [if_pos (show f (200 + b) 6 ≠ f (200 + b) 3 ∨ f (200 + b) 7 ≠ f (200 + b) 4 by omega)] | rw [if_neg (show ¬ (f (200 + b) 6 ≠ f (200 + b) 3 ∨ f (200 + b) 7 ≠ f (200 + b) 4) by omega)])
  · skip
    have hS0 : S ≠ [] := fun q => by rw [q] at h7; exact h7 (by decide)
    refine a_aload_n C dX9_spendMinute_10 rfl ?_
    refine a_getN (ci := 2) (i := 5) (v := .ref (ad (200 + b + 10))) C iw_X1 rfl (by decide) rfl fn_X9_142 (ob_bus hb h4) rfl dX9_spendMinute_11 ?_
    refine a_iconst C dX9_spendMinute_14 ?_
    refine a_callVN (o := 200 + b + 10) (As := [ii_v 0]) C (c_stopAtS hl f w (ob_btour hb h4) (ar_btour hb h4) hS 0 0 rfl (by omega)) co_X7_stopAt in_X7 mn_X9_229 im_X7_stopAt se_X7_stopAt rfl (ob_btour hb h4) ar_X7_stopAt ⟨by decide, by decide, by decide, by decide⟩ rfl (Nat.le_of_ble_eq_true rfl) dX9_spendMinute_15 (a_dR ?_) a_nR
    refine a_istore_n (L' := [(0, .ref (ad 0)), (1, .ref (ad (200 + b))), (2, ii_v (((S.getD 0 0) : Nat) : Int))]) C dX9_spendMinute_18 (by decide) rfl ?_
    refine a_aload_n C dX9_spendMinute_19 rfl ?_
    refine a_aload_n C dX9_spendMinute_20 rfl ?_
    refine a_get (ci := 10) (i := 1) (v := .ref (ad 2)) C iw_X9 rfl (by decide) rfl fl_X9_19 rfl rfl dX9_spendMinute_21 ?_
    have q1 := hq 0 (by omega)
    have qv := hv.1 _ q1
    have q2 := hb64 0 (by omega)
    refine a_iload_n C dX9_spendMinute_24 rfl ?_
    refine a_callVN (o := 2) (As := [ii_v (((S.getD 0 0) : Nat) : Int)]) C (c_xOf hl f w hr hv (S.getD 0 0) (by omega)) co_X0_xOf in_X0 mn_X9_368 im_X0_xOf se_X0_xOf rfl rfl ar_X0_xOf ⟨by decide, by decide, by decide, by decide⟩ rfl (Nat.le_of_ble_eq_true rfl) dX9_spendMinute_25 (a_dR ?_) a_nR
    refine a_aload_n C dX9_spendMinute_28 rfl ?_
    refine a_get (ci := 10) (i := 1) (v := .ref (ad 2)) C iw_X9 rfl (by decide) rfl fl_X9_19 rfl rfl dX9_spendMinute_29 ?_
    refine a_iload_n C dX9_spendMinute_32 rfl ?_
    refine a_callVN (o := 2) (As := [ii_v (((S.getD 0 0) : Nat) : Int)]) C (c_yOf hl f w hr hv (S.getD 0 0) (by omega)) co_X0_yOf in_X0 mn_X9_371 im_X0_yOf se_X0_yOf rfl rfl ar_X0_yOf ⟨by decide, by decide, by decide, by decide⟩ rfl (Nat.le_of_ble_eq_true rfl) dX9_spendMinute_33 (a_dR ?_) a_nR
    refine a_callVN (o := 200 + b) (As := [ii_v (v 0 (S.getD 0 0)), ii_v (v 1 (S.getD 0 0))]) C (c_drive hl f w (ob_bus hb h4) hB (v 0 (S.getD 0 0)) (v 1 (S.getD 0 0)) qv.2.2.1 qv.2.2.2) co_X1_driveTowards in_X1 mn_X9_374 im_X1_driveTowards se_X1_driveTowards rfl (ob_bus hb h4) ar_X1_driveTowards ⟨by decide, by decide, by decide, by decide⟩ rfl (Nat.le_of_ble_eq_true rfl) dX9_spendMinute_36 (a_dV ?_) a_nV
    obtain ⟨g4, eg4⟩ : ∃ F : Nat → Nat → Int, F = dr_T f (200 + b) (v 0 (S.getD 0 0)) (v 1 (S.getD 0 0)) := ⟨_, rfl⟩
    rw [← eg4]
    refine a_goto (tgt := 96) C dX9_spendMinute_39 rfl ?_
    refine a_vret C ?_ (by decide) (by decide) dX9_spendMinute_96
    rw [hPost]
    refine ⟨rfl, rfl, rfl, congrArg (fun q => (q, w)) ?_⟩
    rw [eg4]
    unfold sp_T
    (first | rw [if_pos hS0] | rw [if_neg hS0]); (first | done | rw [if_pos (show f (200 + b) 6 ≠ f (200 + b) 3 ∨ f (200 + b) 7 ≠ f (200 + b) 4 by omega)] | rw [if_neg (show ¬ (f (200 + b) 6 ≠ f (200 + b) 3 ∨ f (200 + b) 7 ≠ f (200 + b) 4) by omega)])
set_option maxRecDepth 20000 in
set_option maxHeartbeats 2000000 in
theorem c_makeStop {l : Launch} {E : ab_E} {base : Nat} (hl : l.stackTraces = false) {ad : Nat → Nat} (f : Nat → Nat → Int) (w : Nat × Nat × Int64 × UInt64) (hr : w.2.1 ≤ 30) {b : Nat} (hb : b < w.1) (h4 : w.1 ≤ 4) (n : Nat) (hn : f 4 4 = (n : Int)) (h60 : n < 60) (q : Nat) (hq : q / 2 ≤ w.2.1) : ab_M l E base yX9_makeStop cX9_makeStop 4 none 6 0 0 [.ref (ad 0), .ref (ad (200 + b)), ii_v ((q : Nat) : Int)] ab_x4 ad (f, w) (ab_V ab_x4 ad (mk_T f b q, w)) := by
  obtain ⟨Post, hPost⟩ : ∃ P : ab_P, P = (ab_V ab_x4 ad (mk_T f b q, w)) := ⟨_, rfl⟩
  rw [← hPost]
  refine ab_of RX9 [(0, .ref (ad 0)), (1, .ref (ad (200 + b))), (2, ii_v ((q : Nat) : Int))] hl (by decide) rfl (Nat.le_of_ble_eq_true rfl) rfl ?_
  intro p e s m args below meth c C T0 hnm
  have hq5 : q < 1000 := by omega
  refine a_aload_n C dX9_makeStop_0 rfl ?_
  refine a_get (ci := 10) (i := 1) (v := .ref (ad 2)) C iw_X9 rfl (by decide) rfl fl_X9_19 rfl rfl dX9_makeStop_1 ?_
  refine a_iload_n C dX9_makeStop_4 rfl ?_
  refine a_callS (As := [ii_v ((q : Nat) : Int)]) C (c_requestOf hl f w q (by omega)) co_X9_requestOf in_X9 ml_X9_232 sc_X9_requestOf ar_X9_requestOf ⟨by decide, by decide, by decide, by decide⟩ rfl (Nat.le_of_ble_eq_true rfl) dX9_makeStop_5 (a_dR ?_) a_nR
  refine a_callVN (o := 2) (As := [ii_v (((q / 2) : Nat) : Int)]) C (c_requestAt hl f w hr _ (q / 2) rfl hq) co_X0_requestAt in_X0 mn_X9_303 im_X0_requestAt se_X0_requestAt rfl rfl ar_X0_requestAt ⟨by decide, by decide, by decide, by decide⟩ rfl (Nat.le_of_ble_eq_true rfl) dX9_makeStop_8 (a_dR ?_) a_nR
  refine a_astore_n (L' := [(0, .ref (ad 0)), (1, .ref (ad (200 + b))), (2, ii_v ((q : Nat) : Int)), (3, .ref (ad (300 + (q / 2))))]) C dX9_makeStop_11 (by decide) rfl ?_
  refine a_iload_n C dX9_makeStop_12 rfl ?_
  refine a_callS (As := [ii_v ((q : Nat) : Int)]) C (c_picksUp hl f w q (by omega)) co_X9_picksUp in_X9 ml_X9_235 sc_X9_picksUp ar_X9_picksUp ⟨by decide, by decide, by decide, by decide⟩ rfl (Nat.le_of_ble_eq_true rfl) dX9_makeStop_13 (a_dR ?_) a_nR
  refine a_bif_eq (tgt := 49) C dX9_makeStop_16 rfl (fun h16 => ?_) (fun h16 => ?_)
  · skip
    refine a_aload_n C dX9_makeStop_49 rfl ?_
    refine a_bipush C dX9_makeStop_50 (by decide) ?_
    refine a_putN (ci := 7) (i := 8) C iw_X6 rfl (by decide) rfl tyX6 tyX6_ok nmX6 rfl rfl fn_X9_132 (ob_req hq) rfl (by decide) rfl dX9_makeStop_52 ?_
    obtain ⟨g1, eg1⟩ : ∃ F : Nat → Nat → Int, F = ii_up f (300 + (q / 2)) 8 100 := ⟨_, rfl⟩
    rw [← eg1]
    refine a_aload_n C dX9_makeStop_55 rfl ?_
    refine a_aload_n C dX9_makeStop_56 rfl ?_
    refine a_get (ci := 10) (i := 6) (v := ii_v (g1 0 6)) C iw_X9 rfl (by decide) rfl fl_X9_58 rfl rfl dX9_makeStop_57 ?_
    refine a_top (w := ii_v (f 0 6)) (congrArg (fun q => ii_v q) (show g1 0 6 = (f 0 6) by rw [eg1, ii_up_o _ _ _ (by omega)])) ?_
    refine a_putN (ci := 7) (i := 12) C iw_X6 rfl (by decide) rfl tyX6 tyX6_ok nmX6 rfl rfl fn_X9_221 (ob_req hq) rfl rfl rfl dX9_makeStop_60 ?_
    obtain ⟨g2, eg2⟩ : ∃ F : Nat → Nat → Int, F = ii_up g1 (300 + (q / 2)) 12 (f 0 6) := ⟨_, rfl⟩
    rw [← eg2]
    refine a_aload_n C dX9_makeStop_63 rfl ?_
    refine a_dup C dX9_makeStop_64 rfl ?_
    refine a_getN (ci := 2) (i := 9) (v := ii_v (g2 (200 + b) 9)) C iw_X1 rfl (by decide) rfl fn_X9_266 (ob_bus hb h4) rfl dX9_makeStop_65 ?_
    refine a_top (w := ii_v (f (200 + b) 9)) (congrArg (fun q => ii_v q) (show g2 (200 + b) 9 = (f (200 + b) 9) by rw [eg2, ii_up_o _ _ _ (by omega), eg1, ii_up_o _ _ _ (by omega)])) ?_
    refine a_aload_n C dX9_makeStop_68 rfl ?_
    refine a_getN (ci := 7) (i := 4) (v := ii_v (g2 (300 + (q / 2)) 4)) C iw_X6 rfl (by decide) rfl fn_X9_353 (ob_req hq) rfl dX9_makeStop_69 ?_
    refine a_top (w := ii_v (f (300 + (q / 2)) 4)) (congrArg (fun q => ii_v q) (show g2 (300 + (q / 2)) 4 = (f (300 + (q / 2)) 4) by rw [eg2, ii_up_k _ _ (by first | decide | omega), eg1, ii_up_k _ _ (by first | decide | omega)])) ?_
    refine a_isub C dX9_makeStop_72 ?_
    refine a_putN (ci := 2) (i := 9) C iw_X1 rfl (by decide) rfl tyX1 tyX1_ok nmX1 rfl rfl fn_X9_266 (ob_bus hb h4) rfl rfl rfl dX9_makeStop_73 ?_
    obtain ⟨g3, eg3⟩ : ∃ F : Nat → Nat → Int, F = ii_up g2 (200 + b) 9 ((f (200 + b) 9) - (f (300 + (q / 2)) 4)) := ⟨_, rfl⟩
    rw [← eg3]
    refine a_aload_n C dX9_makeStop_76 rfl ?_
    refine a_get (ci := 10) (i := 2) (v := .ref (ad 4)) C iw_X9 rfl (by decide) rfl fl_X9_26 rfl rfl dX9_makeStop_77 ?_
    refine a_aload_n C dX9_makeStop_80 rfl ?_
    refine a_getN (ci := 2) (i := 0) (v := ii_v (g3 (200 + b) 0)) C iw_X1 rfl (by decide) rfl fn_X9_138 (ob_bus hb h4) rfl dX9_makeStop_81 ?_
    refine a_top (w := ii_v (f (200 + b) 0)) (congrArg (fun q => ii_v q) (show g3 (200 + b) 0 = (f (200 + b) 0) by rw [eg3, ii_up_k _ _ (by first | decide | omega), eg2, ii_up_o _ _ _ (by omega), eg1, ii_up_o _ _ _ (by omega)])) ?_
    refine a_iload_n C dX9_makeStop_84 rfl ?_
    refine a_callS (As := [ii_v ((q : Nat) : Int)]) C (c_requestOf hl g3 w q (by omega)) co_X9_requestOf in_X9 ml_X9_232 sc_X9_requestOf ar_X9_requestOf ⟨by decide, by decide, by decide, by decide⟩ rfl (Nat.le_of_ble_eq_true rfl) dX9_makeStop_85 (a_dR ?_) a_nR
    refine a_aload_n C dX9_makeStop_88 rfl ?_
    refine a_get (ci := 10) (i := 6) (v := ii_v (g3 0 6)) C iw_X9 rfl (by decide) rfl fl_X9_58 rfl rfl dX9_makeStop_89 ?_
    refine a_top (w := ii_v (f 0 6)) (congrArg (fun q => ii_v q) (show g3 0 6 = (f 0 6) by rw [eg3, ii_up_o _ _ _ (by omega), eg2, ii_up_o _ _ _ (by omega), eg1, ii_up_o _ _ _ (by omega)])) ?_
    refine a_aload_n C dX9_makeStop_92 rfl ?_
    refine a_getN (ci := 2) (i := 10) (v := ii_v (g3 (200 + b) 10)) C iw_X1 rfl (by decide) rfl fn_X9_269 (ob_bus hb h4) rfl dX9_makeStop_93 ?_
    refine a_top (w := ii_v (f (200 + b) 10)) (congrArg (fun q => ii_v q) (show g3 (200 + b) 10 = (f (200 + b) 10) by rw [eg3, ii_up_k _ _ (by first | decide | omega), eg2, ii_up_o _ _ _ (by omega), eg1, ii_up_o _ _ _ (by omega)])) ?_
    refine a_callVN (o := 4) (As := [ii_v (f (200 + b) 0), ii_v (((q / 2) : Nat) : Int), ii_v (f 0 6), ii_v (f (200 + b) 10)]) C (c_jwrite hl g3 w n (by rw [eg3, ii_up_o _ _ _ (by omega), eg2, ii_up_o _ _ _ (by omega), eg1, ii_up_o _ _ _ (by omega)]; exact hn) h60 (f (200 + b) 0) (((q / 2) : Nat) : Int) (f 0 6) (f (200 + b) 10)) co_X4_write in_X4 mn_X9_397 im_X4_write se_X4_write rfl rfl ar_X4_write ⟨by decide, by decide, by decide, by decide⟩ rfl (Nat.le_of_ble_eq_true rfl) dX9_makeStop_96 (a_dV ?_) a_nV
    obtain ⟨g4, eg4⟩ : ∃ F : Nat → Nat → Int, F = ii_up (ii_up (ii_up (ii_up (ii_up g3 5 n (f (200 + b) 0)) 6 n (((q / 2) : Nat) : Int)) 7 n (f 0 6)) 8 n (f (200 + b) 10)) 4 4 ((n : Int) + 1) := ⟨_, rfl⟩
    rw [← eg4]
    refine a_vret C ?_ (by decide) (by decide) dX9_makeStop_99
    rw [hPost]
    refine ⟨rfl, rfl, rfl, congrArg (fun q => (q, w)) ?_⟩
    rw [eg4]
    subst eg3 eg2 eg1
    unfold mk_T
    rw [show (f 4 4).toNat = n by omega, hn]
    (first | rw [if_pos (by assumption)] | rw [if_neg (by assumption)])
  · skip
    refine a_aload_n C dX9_makeStop_19 rfl ?_
    refine a_bipush C dX9_makeStop_20 (by decide) ?_
    refine a_putN (ci := 7) (i := 8) C iw_X6 rfl (by decide) rfl tyX6 tyX6_ok nmX6 rfl rfl fn_X9_132 (ob_req hq) rfl (by decide) rfl dX9_makeStop_22 ?_
    obtain ⟨g5, eg5⟩ : ∃ F : Nat → Nat → Int, F = ii_up f (300 + (q / 2)) 8 114 := ⟨_, rfl⟩
    rw [← eg5]
    refine a_aload_n C dX9_makeStop_25 rfl ?_
    refine a_aload_n C dX9_makeStop_26 rfl ?_
    refine a_get (ci := 10) (i := 6) (v := ii_v (g5 0 6)) C iw_X9 rfl (by decide) rfl fl_X9_58 rfl rfl dX9_makeStop_27 ?_
    refine a_top (w := ii_v (f 0 6)) (congrArg (fun q => ii_v q) (show g5 0 6 = (f 0 6) by rw [eg5, ii_up_o _ _ _ (by omega)])) ?_
    refine a_putN (ci := 7) (i := 11) C iw_X6 rfl (by decide) rfl tyX6 tyX6_ok nmX6 rfl rfl fn_X9_218 (ob_req hq) rfl rfl rfl dX9_makeStop_30 ?_
    obtain ⟨g6, eg6⟩ : ∃ F : Nat → Nat → Int, F = ii_up g5 (300 + (q / 2)) 11 (f 0 6) := ⟨_, rfl⟩
    rw [← eg6]
    refine a_aload_n C dX9_makeStop_33 rfl ?_
    refine a_dup C dX9_makeStop_34 rfl ?_
    refine a_getN (ci := 2) (i := 9) (v := ii_v (g6 (200 + b) 9)) C iw_X1 rfl (by decide) rfl fn_X9_266 (ob_bus hb h4) rfl dX9_makeStop_35 ?_
    refine a_top (w := ii_v (f (200 + b) 9)) (congrArg (fun q => ii_v q) (show g6 (200 + b) 9 = (f (200 + b) 9) by rw [eg6, ii_up_o _ _ _ (by omega), eg5, ii_up_o _ _ _ (by omega)])) ?_
    refine a_aload_n C dX9_makeStop_38 rfl ?_
    refine a_getN (ci := 7) (i := 4) (v := ii_v (g6 (300 + (q / 2)) 4)) C iw_X6 rfl (by decide) rfl fn_X9_353 (ob_req hq) rfl dX9_makeStop_39 ?_
    refine a_top (w := ii_v (f (300 + (q / 2)) 4)) (congrArg (fun q => ii_v q) (show g6 (300 + (q / 2)) 4 = (f (300 + (q / 2)) 4) by rw [eg6, ii_up_k _ _ (by first | decide | omega), eg5, ii_up_k _ _ (by first | decide | omega)])) ?_
    refine a_iadd C dX9_makeStop_42 ?_
    refine a_putN (ci := 2) (i := 9) C iw_X1 rfl (by decide) rfl tyX1 tyX1_ok nmX1 rfl rfl fn_X9_266 (ob_bus hb h4) rfl rfl rfl dX9_makeStop_43 ?_
    obtain ⟨g7, eg7⟩ : ∃ F : Nat → Nat → Int, F = ii_up g6 (200 + b) 9 ((f (200 + b) 9) + (f (300 + (q / 2)) 4)) := ⟨_, rfl⟩
    rw [← eg7]
    refine a_goto (tgt := 76) C dX9_makeStop_46 rfl ?_
    refine a_aload_n C dX9_makeStop_76 rfl ?_
    refine a_get (ci := 10) (i := 2) (v := .ref (ad 4)) C iw_X9 rfl (by decide) rfl fl_X9_26 rfl rfl dX9_makeStop_77 ?_
    refine a_aload_n C dX9_makeStop_80 rfl ?_
    refine a_getN (ci := 2) (i := 0) (v := ii_v (g7 (200 + b) 0)) C iw_X1 rfl (by decide) rfl fn_X9_138 (ob_bus hb h4) rfl dX9_makeStop_81 ?_
    refine a_top (w := ii_v (f (200 + b) 0)) (congrArg (fun q => ii_v q) (show g7 (200 + b) 0 = (f (200 + b) 0) by rw [eg7, ii_up_k _ _ (by first | decide | omega), eg6, ii_up_o _ _ _ (by omega), eg5, ii_up_o _ _ _ (by omega)])) ?_
    refine a_iload_n C dX9_makeStop_84 rfl ?_
    refine a_callS (As := [ii_v ((q : Nat) : Int)]) C (c_requestOf hl g7 w q (by omega)) co_X9_requestOf in_X9 ml_X9_232 sc_X9_requestOf ar_X9_requestOf ⟨by decide, by decide, by decide, by decide⟩ rfl (Nat.le_of_ble_eq_true rfl) dX9_makeStop_85 (a_dR ?_) a_nR
    refine a_aload_n C dX9_makeStop_88 rfl ?_
    refine a_get (ci := 10) (i := 6) (v := ii_v (g7 0 6)) C iw_X9 rfl (by decide) rfl fl_X9_58 rfl rfl dX9_makeStop_89 ?_
    refine a_top (w := ii_v (f 0 6)) (congrArg (fun q => ii_v q) (show g7 0 6 = (f 0 6) by rw [eg7, ii_up_o _ _ _ (by omega), eg6, ii_up_o _ _ _ (by omega), eg5, ii_up_o _ _ _ (by omega)])) ?_
    refine a_aload_n C dX9_makeStop_92 rfl ?_
    refine a_getN (ci := 2) (i := 10) (v := ii_v (g7 (200 + b) 10)) C iw_X1 rfl (by decide) rfl fn_X9_269 (ob_bus hb h4) rfl dX9_makeStop_93 ?_
    refine a_top (w := ii_v (f (200 + b) 10)) (congrArg (fun q => ii_v q) (show g7 (200 + b) 10 = (f (200 + b) 10) by rw [eg7, ii_up_k _ _ (by first | decide | omega), eg6, ii_up_o _ _ _ (by omega), eg5, ii_up_o _ _ _ (by omega)])) ?_
    refine a_callVN (o := 4) (As := [ii_v (f (200 + b) 0), ii_v (((q / 2) : Nat) : Int), ii_v (f 0 6), ii_v (f (200 + b) 10)]) C (c_jwrite hl g7 w n (by rw [eg7, ii_up_o _ _ _ (by omega), eg6, ii_up_o _ _ _ (by omega), eg5, ii_up_o _ _ _ (by omega)]; exact hn) h60 (f (200 + b) 0) (((q / 2) : Nat) : Int) (f 0 6) (f (200 + b) 10)) co_X4_write in_X4 mn_X9_397 im_X4_write se_X4_write rfl rfl ar_X4_write ⟨by decide, by decide, by decide, by decide⟩ rfl (Nat.le_of_ble_eq_true rfl) dX9_makeStop_96 (a_dV ?_) a_nV
    obtain ⟨g8, eg8⟩ : ∃ F : Nat → Nat → Int, F = ii_up (ii_up (ii_up (ii_up (ii_up g7 5 n (f (200 + b) 0)) 6 n (((q / 2) : Nat) : Int)) 7 n (f 0 6)) 8 n (f (200 + b) 10)) 4 4 ((n : Int) + 1) := ⟨_, rfl⟩
    rw [← eg8]
    refine a_vret C ?_ (by decide) (by decide) dX9_makeStop_99
    rw [hPost]
    refine ⟨rfl, rfl, rfl, congrArg (fun q => (q, w)) ?_⟩
    rw [eg8]
    subst eg7 eg6 eg5
    unfold mk_T
    rw [show (f 4 4).toNat = n by omega, hn]
    (first | rw [if_pos (by assumption)] | rw [if_neg (by assumption)])
set_option maxRecDepth 20000 in
set_option maxHeartbeats 2000000 in
theorem c_due {l : Launch} {E : ab_E} {base : Nat} (hl : l.stackTraces = false) {ad : Nat → Nat} (f : Nat → Nat → Int) (w : Nat × Nat × Int64 × UInt64) (hr : w.2.1 ≤ 30) {v : Nat → Nat → Int} (hv : pe_C f v w.2.1) {b : Nat} (hb : b < w.1) (h4 : w.1 ≤ 4) (hB : pb_B f (200 + b)) {S : List Nat} (hS : ts_I f (200 + b + 10) S) (hq : ∀ j, j < S.length → S.getD j 0 / 2 ≤ w.2.1) (hnow : 0 ≤ f 0 6 ∧ f 0 6 ≤ 100000) (n : Nat) (hn : f 4 4 = (n : Int)) (h60 : n + S.length ≤ 60) : ab_M l E base yX9_makeDueStops cX9_makeDueStops 5 (some .int) 7 0 0 [.ref (ad 0), .ref (ad (200 + b))] ab_x4 ad (f, w) (ab_F ad w (fun r g => r = some (ii_v ((du_n v (f (200 + b) 6) (f (200 + b) 7) S : Nat) : Int)) ∧ ts_I g (200 + b + 10) (S.drop (du_n v (f (200 + b) 6) (f (200 + b) 7) S)) ∧ ∀ o2, o2 ≠ 200 + b + 10 → o2 ≠ 200 + b + 10 + 10 → g o2 = md_T f b (S.take (du_n v (f (200 + b) 6) (f (200 + b) 7) S)) o2)) := by
  obtain ⟨Post, hPost⟩ : ∃ P : ab_P, P = (ab_F ad w (fun r g => r = some (ii_v ((du_n v (f (200 + b) 6) (f (200 + b) 7) S : Nat) : Int)) ∧ ts_I g (200 + b + 10) (S.drop (du_n v (f (200 + b) 6) (f (200 + b) 7) S)) ∧ ∀ o2, o2 ≠ 200 + b + 10 → o2 ≠ 200 + b + 10 + 10 → g o2 = md_T f b (S.take (du_n v (f (200 + b) 6) (f (200 + b) 7) S)) o2)) := ⟨_, rfl⟩
  rw [← hPost]
  refine ab_of RX9 [(0, .ref (ad 0)), (1, .ref (ad (200 + b)))] hl (by decide) rfl (Nat.le_of_ble_eq_true rfl) rfl ?_
  intro p e s m args below meth c C T0 hnm
  obtain ⟨hc, h8, -, hb64⟩ := id hS
  obtain ⟨hB1, hB3, hB4, hB6, hB7, hB8, hB9⟩ := id hB
  refine a_iconst C dX9_makeDueStops_0 ?_
  refine a_istore_n (L' := [(0, .ref (ad 0)), (1, .ref (ad (200 + b))), (2, ii_v 0)]) C dX9_makeDueStops_1 (by decide) rfl ?_
  refine a_aload_n C dX9_makeDueStops_2 rfl ?_
  refine a_getN (ci := 2) (i := 5) (v := .ref (ad (200 + b + 10))) C iw_X1 rfl (by decide) rfl fn_X9_142 (ob_bus hb h4) rfl dX9_makeDueStops_3 ?_
  refine a_getN (ci := 8) (i := 1) (v := ii_v (f (200 + b + 10) 1)) C iw_X7 rfl (by decide) rfl fn_X9_224 (ob_btour hb h4) rfl dX9_makeDueStops_6 ?_
  rw [hc]
  refine a_istore_n (L' := [(0, .ref (ad 0)), (1, .ref (ad (200 + b))), (2, ii_v 0), (3, ii_v ((S.length : Nat) : Int))]) C dX9_makeDueStops_9 (by decide) rfl ?_
  have loop10 : ∀ (NN10 : Nat) (k : Nat) (g : Nat → Nat → Int) (v2 : Nat → Nat → Int), S.length - k < NN10 → (k ≤ S.length) → (ts_I g (200 + b + 10) (S.drop k)) → (du_n v (f (200 + b) 6) (f (200 + b) 7) S = k + du_n v (f (200 + b) 6) (f (200 + b) 7) (S.drop k)) → (g 4 4 = ((n + k : Nat) : Int)) → (g 0 = f 0) → (∀ i, i ≠ 9 → g (200 + b) i = f (200 + b) i) → (pe_C g v2 w.2.1) → (∀ q, v2 0 q = v 0 q ∧ v2 1 q = v 1 q) → (∀ o2, o2 ≠ 200 + b + 10 → o2 ≠ 200 + b + 10 + 10 → g o2 = md_T f b (S.take k) o2) → ab_W p l e (ab_rm 7 0 0) s m args below meth c E base 5 (ab_Q below E base Post args s 0 0) ab_x4 ad (g, w) 0 0 10 [(0, .ref (ad 0)), (1, .ref (ad (200 + b))), (2, ii_v ((k : Nat) : Int)), (3, ii_v (((S.length - k) : Nat) : Int))] [] := by
    intro NN10
    induction NN10 with
    | zero => intro k g v2 hNN; exact absurd hNN (Nat.not_lt_zero _)
    | succ NN10 ih10 =>
      intro k g v2 hNN hk hSk hdue hgn hg0 hgb hvg hv0 hfr
      refine a_iload_n C dX9_makeDueStops_10 rfl ?_
      refine a_if_le (tgt := 72) C dX9_makeDueStops_11 rfl (by unfold ii_B; omega) (fun h11 => ?_) (fun h11 => ?_)
      · skip
        refine a_iload_n C dX9_makeDueStops_72 rfl ?_
        refine a_iret C ?_ (by decide) (by decide) dX9_makeDueStops_73
        rw [hPost]
        have hdn : du_n v (f (200 + b) 6) (f (200 + b) 7) S = k := by first | (rw [hdue, du_n, if_neg hdz]; rfl) | (rw [hdue, List.drop_eq_nil_of_le (by omega)]; rfl)
        rw [hdn]
        exact ab_F_of ⟨rfl, by first | exact hSk | (rw [hdr]; exact hSk), hfr⟩
      · skip
        have hkl : k < S.length := by omega
        obtain ⟨q, hqe⟩ : ∃ q, S.getD k 0 = q := ⟨_, rfl⟩
        have hdr : S.drop k = q :: S.drop (k + 1) := by rw [← hqe]; exact ls_drop hkl
        rw [hdr] at hSk hdue
        have hqn : q / 2 ≤ w.2.1 := by rw [← hqe]; exact hq k hkl
        have hq64 : q < 64 := by rw [← hqe]; exact hb64 k hkl
        have qv := hv.1 q hqn
        have qd := pd_b hB6 hB7 qv.2.2.1 qv.2.2.2
        refine a_aload_n C dX9_makeDueStops_14 rfl ?_
        refine a_getN (ci := 2) (i := 5) (v := .ref (ad (200 + b + 10))) C iw_X1 rfl (by decide) rfl fn_X9_142 (ob_bus hb h4) rfl dX9_makeDueStops_15 ?_
        refine a_iconst C dX9_makeDueStops_18 ?_
        refine a_callVN (o := 200 + b + 10) (As := [ii_v 0]) C (c_stopAtS hl g w (ob_btour hb h4) (ar_btour hb h4) hSk 0 0 rfl (Nat.zero_lt_succ _)) co_X7_stopAt in_X7 mn_X9_229 im_X7_stopAt se_X7_stopAt rfl (ob_btour hb h4) ar_X7_stopAt ⟨by decide, by decide, by decide, by decide⟩ rfl (Nat.le_of_ble_eq_true rfl) dX9_makeDueStops_19 (a_dR ?_) a_nR
        refine a_istore (L' := [(0, .ref (ad 0)), (1, .ref (ad (200 + b))), (2, ii_v ((k : Nat) : Int)), (3, ii_v (((S.length - k) : Nat) : Int)), (4, ii_v ((q : Nat) : Int))]) C dX9_makeDueStops_22 (by decide) rfl ?_
        refine a_aload_n C dX9_makeDueStops_24 rfl ?_
        refine a_get (ci := 10) (i := 1) (v := .ref (ad 2)) C iw_X9 rfl (by decide) rfl fl_X9_19 rfl rfl dX9_makeDueStops_25 ?_
        refine a_iload C dX9_makeDueStops_28 rfl ?_
        refine a_aload_n C dX9_makeDueStops_30 rfl ?_
        refine a_getN (ci := 2) (i := 6) (v := ii_v (g (200 + b) 6)) C iw_X1 rfl (by decide) rfl fn_X9_257 (ob_bus hb h4) rfl dX9_makeDueStops_31 ?_
        refine a_top (w := ii_v (f (200 + b) 6)) (congrArg (fun q => ii_v q) (hgb 6 (by decide))) ?_
        refine a_aload_n C dX9_makeDueStops_34 rfl ?_
        refine a_getN (ci := 2) (i := 7) (v := ii_v (g (200 + b) 7)) C iw_X1 rfl (by decide) rfl fn_X9_260 (ob_bus hb h4) rfl dX9_makeDueStops_35 ?_
        refine a_top (w := ii_v (f (200 + b) 7)) (congrArg (fun q => ii_v q) (hgb 7 (by decide))) ?_
        refine a_callVN (o := 2) (As := [ii_v ((q : Nat) : Int), ii_v (f (200 + b) 6), ii_v (f (200 + b) 7)]) C (c_wayTo hl g w hr hvg q hqn (f (200 + b) 6) (f (200 + b) 7) hB6 hB7) co_X0_wayTo in_X0 mn_X9_390 im_X0_wayTo se_X0_wayTo rfl rfl ar_X0_wayTo ⟨by decide, by decide, by decide, by decide⟩ rfl (Nat.le_of_ble_eq_true rfl) dX9_makeDueStops_38 (a_dR ?_) a_nR
        rw [(hv0 q).1, (hv0 q).2]
        refine a_if_le (tgt := 47) C dX9_makeDueStops_41 rfl (by unfold ii_B; omega) (fun h41 => ?_) (fun h41 => ?_)
        · skip
          have hdz : pd_d (f (200 + b) 6) (f (200 + b) 7) (v 0 q) (v 1 q) ≤ 0 := by omega
          refine a_aload_n C dX9_makeDueStops_47 rfl ?_
          refine a_getN (ci := 2) (i := 5) (v := .ref (ad (200 + b + 10))) C iw_X1 rfl (by decide) rfl fn_X9_142 (ob_bus hb h4) rfl dX9_makeDueStops_48 ?_
          refine a_iload C dX9_makeDueStops_51 rfl ?_
          refine a_callVN (o := 200 + b + 10) (As := [ii_v ((q : Nat) : Int)]) C (c_removeStop hl g w (ob_btour hb h4) (ar_btour hb h4) hSk q hq64) co_X7_removeStop in_X7 mn_X9_190 im_X7_removeStop se_X7_removeStop rfl (ob_btour hb h4) ar_X7_removeStop ⟨by decide, by decide, by decide, by decide⟩ rfl (Nat.le_of_ble_eq_true rfl) dX9_makeDueStops_53 (a_dF ?_) a_nF
          intro vg1 g1 hvg1
          obtain ⟨rfl, hsg1, hfg1⟩ := hvg1
          rw [List.erase_cons_head] at hsg1
          refine a_aload_n C dX9_makeDueStops_56 rfl ?_
          refine a_aload_n C dX9_makeDueStops_57 rfl ?_
          refine a_iload C dX9_makeDueStops_58 rfl ?_
          refine a_callV (o := 0) (As := [.ref (ad (200 + b)), ii_v ((q : Nat) : Int)]) C (c_makeStop hl g1 w hr hb h4 (n + k) (by rw [hfg1 4 (by omega) (by omega), hgn]) (by omega) q hqn) co_X9_makeStop in_X9 ml_X9_394 im_X9_makeStop se_X9_makeStop rfl rfl ar_X9_makeStop ⟨by decide, by decide, by decide, by decide⟩ rfl (Nat.le_of_ble_eq_true rfl) dX9_makeDueStops_60 (a_dV ?_) a_nV
          obtain ⟨g2, eg2⟩ : ∃ F : Nat → Nat → Int, F = mk_T g1 b q := ⟨_, rfl⟩
          rw [← eg2]
          have q0 : g2 0 = f 0 := by rw [eg2, mk_row (by omega) (by omega) (by omega), hfg1 _ (by omega) (by omega)]; exact hg0
          have qt : ts_I g2 (200 + b + 10) (S.drop (k + 1)) := ts_same hsg1 (by rw [eg2]; exact mk_row (by omega) (by omega) (by omega)) (by rw [eg2]; exact mk_row (by omega) (by omega) (by omega))
          have qn : g2 4 4 = ((n + (k + 1) : Nat) : Int) := by rw [eg2, mk_44, hfg1 4 (by omega) (by omega), hgn]; omega
          have qb : ∀ i, i ≠ 9 → g2 (200 + b) i = f (200 + b) i := fun i hi => by rw [eg2, mk_bus (by omega) hi, hfg1 _ (by omega) (by omega)]; exact hgb i hi
          have qp : pe_C g2 (va_f v2 q (f 0 6)) w.2.1 := by rw [eg2, ← hg0, ← hfg1 0 (by omega) (by omega)]; exact mk_pe (by omega) (by rw [hfg1 0 (by omega) (by omega), hg0]; exact hnow) (pe_same hvg (fun o2 h => hfg1 o2 (by omega) (by omega)))
          have qf : ∀ o2, o2 ≠ 200 + b + 10 → o2 ≠ 200 + b + 10 + 10 → g2 o2 = md_T f b (S.take (k + 1)) o2 := fun o2 h1 h2 => by rw [eg2, md_take hkl, hqe]; exact mk_cong (fun o3 h3 h5 => (hfg1 o3 h3 h5).trans (hfr o3 h3 h5)) (by omega) (by omega) h1 h2
          refine a_iinc (L' := [(0, .ref (ad 0)), (1, .ref (ad (200 + b))), (2, ii_v (((k : Nat) : Int) + 1)), (3, ii_v (((S.length - k) : Nat) : Int)), (4, ii_v ((q : Nat) : Int))]) C dX9_makeDueStops_63 rfl (by decide) rfl ?_
          refine a_iinc (L' := [(0, .ref (ad 0)), (1, .ref (ad (200 + b))), (2, ii_v (((k : Nat) : Int) + 1)), (3, ii_v ((((S.length - k) : Nat) : Int) + (-1))), (4, ii_v ((q : Nat) : Int))]) C dX9_makeDueStops_66 rfl (by decide) rfl ?_
          rw [show ((S.length - k : Nat) : Int) + (-1) = ((S.length - (k + 1) : Nat) : Int) by omega]
          refine a_goto (tgt := 10) C dX9_makeDueStops_69 rfl ?_
          refine a_pick [0, 1, 2, 3] (L2 := [(0, .ref (ad 0)), (1, .ref (ad (200 + b))), (2, ii_v (((k : Nat) : Int) + 1)), (3, ii_v (((S.length - (k + 1)) : Nat) : Int))]) rfl ?_
          exact ih10 (k + 1) g2 (va_f v2 q (f 0 6)) (by omega) (by omega) qt (by rw [hdue, du_n, if_pos hdz]; omega) qn q0 qb qp (fun q2 => hv0 q2) qf
        · skip
          have hdz : ¬ pd_d (f (200 + b) 6) (f (200 + b) 7) (v 0 q) (v 1 q) ≤ 0 := by omega
          refine a_goto (tgt := 72) C dX9_makeDueStops_44 rfl ?_
          refine a_iload_n C dX9_makeDueStops_72 rfl ?_
          refine a_iret C ?_ (by decide) (by decide) dX9_makeDueStops_73
          rw [hPost]
          have hdn : du_n v (f (200 + b) 6) (f (200 + b) 7) S = k := by first | (rw [hdue, du_n, if_neg hdz]; rfl) | (rw [hdue, List.drop_eq_nil_of_le (by omega)]; rfl)
          rw [hdn]
          exact ab_F_of ⟨rfl, by first | exact hSk | (rw [hdr]; exact hSk), hfr⟩
  exact loop10 (_ + 1) 0 f v (Nat.lt_succ_self _) (Nat.zero_le _) hS (Nat.zero_add _).symm hn rfl (fun _ _ => rfl) hv (fun _ => ⟨rfl, rfl⟩) (fun _ _ _ => rfl)
set_option maxRecDepth 20000 in
set_option maxHeartbeats 2000000 in
theorem c_signOf {l : Launch} {E : ab_E} {base : Nat} (hl : l.stackTraces = false) {ad : Nat → Nat} (f : Nat → Nat → Int) (w : Nat × Nat × Int64 × UInt64) (u : Int) (hu : 0 ≤ u ∧ u ≤ 10) : ab_M l E base yX9_signOf cX9_signOf 1 (some .char) 1 0 0 [ii_v u] ab_x4 ad (f, w) (ab_R (ii_v (sg_f u)) ab_x4 ad (f, w)) := by
  obtain ⟨Post, hPost⟩ : ∃ P : ab_P, P = (ab_R (ii_v (sg_f u)) ab_x4 ad (f, w)) := ⟨_, rfl⟩
  rw [← hPost]
  refine ab_of RX9 [(0, ii_v u)] hl (by decide) rfl (Nat.le_of_ble_eq_true rfl) rfl ?_
  intro p e s m args below meth c C T0 hnm
  refine a_iload_n C dX9_signOf_0 rfl ?_
  by_cases h1_2 : u = 2
  · skip
    refine a_tswIn (tgt := 28) 27 C dX9_signOf_1 (by unfold ii_B; omega) (by omega) (by omega) (by rw [h1_2]; rfl) rfl ?_
    refine a_bipush C dX9_signOf_28 (by decide) ?_
    refine a_zret C (by decide) ?_ (by decide) (by decide) dX9_signOf_30
    rw [hPost]
    exact ⟨rt_i (by unfold sg_f; first | rw [if_pos (by omega)] | (rw [if_neg (by omega)]; first | rw [if_pos (by omega)] | (rw [if_neg (by omega)]; first | rw [if_pos (by omega)] | rw [if_neg (by omega)]))), rfl, rfl, rfl⟩
  · skip
    by_cases h1_3 : u = 3
    · skip
      refine a_tswIn (tgt := 31) 30 C dX9_signOf_1 (by unfold ii_B; omega) (by omega) (by omega) (by rw [h1_3]; rfl) rfl ?_
      refine a_bipush C dX9_signOf_31 (by decide) ?_
      refine a_zret C (by decide) ?_ (by decide) (by decide) dX9_signOf_33
      rw [hPost]
      exact ⟨rt_i (by unfold sg_f; first | rw [if_pos (by omega)] | (rw [if_neg (by omega)]; first | rw [if_pos (by omega)] | (rw [if_neg (by omega)]; first | rw [if_pos (by omega)] | rw [if_neg (by omega)]))), rfl, rfl, rfl⟩
    · skip
      by_cases h1_4 : u = 4
      · skip
        refine a_tswIn (tgt := 34) 33 C dX9_signOf_1 (by unfold ii_B; omega) (by omega) (by omega) (by rw [h1_4]; rfl) rfl ?_
        refine a_bipush C dX9_signOf_34 (by decide) ?_
        refine a_zret C (by decide) ?_ (by decide) (by decide) dX9_signOf_36
        rw [hPost]
        exact ⟨rt_i (by unfold sg_f; first | rw [if_pos (by omega)] | (rw [if_neg (by omega)]; first | rw [if_pos (by omega)] | (rw [if_neg (by omega)]; first | rw [if_pos (by omega)] | rw [if_neg (by omega)]))), rfl, rfl, rfl⟩
      · skip
        refine a_tswOut (tgt := 37) C dX9_signOf_1 (by unfold ii_B; omega) (by omega) rfl ?_
        refine a_bipush C dX9_signOf_37 (by decide) ?_
        refine a_zret C (by decide) ?_ (by decide) (by decide) dX9_signOf_39
        rw [hPost]
        exact ⟨rt_i (by unfold sg_f; first | rw [if_pos (by omega)] | (rw [if_neg (by omega)]; first | rw [if_pos (by omega)] | (rw [if_neg (by omega)]; first | rw [if_pos (by omega)] | rw [if_neg (by omega)]))), rfl, rfl, rfl⟩
