/-! Quotes, cancel, improve, worstRide. -/
theorem er_le (S : List Nat) (x : Nat) : (S.erase x).length ≤ S.length := List.Sublist.length_le List.erase_sublist
theorem er_ok {S : List Nat} {nr : Nat} (x : Nat) (h : ∀ j, j < S.length → S.getD j 0 / 2 ≤ nr) : ∀ j, j < (S.erase x).length → (S.erase x).getD j 0 / 2 ≤ nr := by
  intro j hj
  obtain ⟨m, hm, h2⟩ := gd_of_mem (d := 0) (List.mem_of_mem_erase (gd_mem (d := 0) hj))
  rw [← h2]
  exact h m hm
theorem pe_up {f v : Nat → Nat → Int} {nr r i : Nat} {u : Int} (h : pe_C f v nr) (hi : i ≠ 0 ∧ i ≠ 1 ∧ i ≠ 2 ∧ i ≠ 3 ∧ i ≠ 4 ∧ i ≠ 6 ∧ i ≠ 7 ∧ i ≠ 11) : pe_C (ii_up f (300 + r) i u) v nr := by
  have hg : ∀ o j, i ≠ j → ii_up f (300 + r) i u o j = f o j := fun o j hj => by
    by_cases q : o = 300 + r
    · rw [q, ii_up_k _ _ (fun z => hj z.symm)]
    · rw [ii_up_o _ _ _ q]
  obtain ⟨i0, i1, i2, i3, i4, i6, i7, i11⟩ := hi
  refine ⟨fun q hq => ?_, fun q hq => ?_⟩
  · have h1 := h.1 q hq
    unfold pd_x pd_y at h1 ⊢
    rw [hg _ _ i0, hg _ _ i1, hg _ _ i2, hg _ _ i3]
    exact h1
  · rw [hg _ _ i4, hg _ _ i6, hg _ _ i7, hg _ _ i11]
    exact h.2 q hq
theorem mk_congP {f g : Nat → Nat → Int} {b q : Nat} {P : Nat → Prop} (hP : P 0 ∧ P 4 ∧ P (200 + b) ∧ ∀ r, P (300 + r)) (h : ∀ o, P o → g o = f o) (o : Nat) (ho : P o) : mk_T g b q o = mk_T f b q o := by
  unfold mk_T
  rw [h 4 hP.2.1, h 0 hP.1, h (200 + b) hP.2.2.1, h (300 + q / 2) (hP.2.2.2 _)]
  refine up_cong (up_cong (up_cong (up_cong (up_cong ?_))))
  split
  · exact up_cong (up_cong (up_cong (h o ho)))
  · exact up_cong (up_cong (up_cong (h o ho)))
theorem md_cong {b : Nat} {P : Nat → Prop} (hP : P 0 ∧ P 4 ∧ P (200 + b) ∧ ∀ r, P (300 + r)) : ∀ {f g : Nat → Nat → Int} (_ : ∀ o, P o → g o = f o) (S : List Nat) (o : Nat) (_ : P o), md_T g b S o = md_T f b S o
  | _, _, h, [], o, ho => h o ho
  | _, _, h, _ :: S, o, ho => md_cong hP (mk_congP hP h) S o ho
theorem md_bus {b i : Nat} (hb : b < 90) (hi : i ≠ 9) : ∀ (S : List Nat) (f : Nat → Nat → Int), md_T f b S (200 + b) i = f (200 + b) i
  | [], _ => rfl
  | q :: S, f => (md_bus hb hi S (mk_T f b q)).trans (mk_bus hb hi)
theorem rt_j {a b : Int} (h : a = b) : some (ii_v a) = some (ii_v b) := by rw [h]
/-- the numbers of the stops and requests, the wish taken in -/
def vw_f (v : Nat → Nat → Int) (nr : Nat) (x y u z n lp lr : Int) : Nat → Nat → Int := fun c i =>
  if c = 0 ∧ i / 2 = nr then (if i % 2 = 0 then x else u) else if c = 1 ∧ i / 2 = nr then (if i % 2 = 0 then y else z) else if c = 2 ∧ i = nr then n else if c = 3 ∧ i = nr then lp else if c = 4 ∧ i = nr then lr else v c i
section WI
variable {f v : Nat → Nat → Int} {nr o : Nat} {x y u z n : Int}
theorem wi_row (h : o ≠ 300 + nr) : wi_T f nr x y u z n o = f o := by
  unfold wi_T
  rw [ii_up_row _ _ h, ii_up_row _ _ h, ii_up_row _ _ h, ii_up_row _ _ h, ii_up_row _ _ h, ii_up_row _ _ h, ii_up_row _ _ h, ii_up_row _ _ h]
theorem wi_at : wi_T f nr x y u z n (300 + nr) 0 = x ∧ wi_T f nr x y u z n (300 + nr) 1 = y ∧ wi_T f nr x y u z n (300 + nr) 2 = u ∧ wi_T f nr x y u z n (300 + nr) 3 = z ∧ wi_T f nr x y u z n (300 + nr) 4 = n ∧ wi_T f nr x y u z n (300 + nr) 5 = pd_d x y u z ∧ wi_T f nr x y u z n (300 + nr) 6 = f 0 6 + f 0 8 ∧ wi_T f nr x y u z n (300 + nr) 7 = pd_d x y u z * (100 + f 0 7) / 100 ∧ ∀ i, 8 ≤ i → wi_T f nr x y u z n (300 + nr) i = f (300 + nr) i := by
  refine ⟨?_, ?_, ?_, ?_, ?_, ?_, ?_, ?_, fun i hi => ?_⟩
  · simp [wi_T, ii_up]
  · simp [wi_T, ii_up]
  · simp [wi_T, ii_up]
  · simp [wi_T, ii_up]
  · simp [wi_T, ii_up]
  · simp [wi_T, ii_up]
  · simp [wi_T, ii_up]
  · simp [wi_T, ii_up]
  · unfold wi_T
    rw [ii_up_k _ _ (by omega), ii_up_k _ _ (by omega), ii_up_k _ _ (by omega), ii_up_k _ _ (by omega), ii_up_k _ _ (by omega), ii_up_k _ _ (by omega), ii_up_k _ _ (by omega), ii_up_k _ _ (by omega)]
theorem vw_0 {lp lr : Int} {i : Nat} : vw_f v nr x y u z n lp lr 0 i = if i / 2 = nr then (if i % 2 = 0 then x else u) else v 0 i := by simp [vw_f]
theorem vw_1 {lp lr : Int} {i : Nat} : vw_f v nr x y u z n lp lr 1 i = if i / 2 = nr then (if i % 2 = 0 then y else z) else v 1 i := by simp [vw_f]
theorem vw_2 {lp lr : Int} {i : Nat} : vw_f v nr x y u z n lp lr 2 i = if i = nr then n else v 2 i := by simp [vw_f]
theorem vw_3 {lp lr : Int} {i : Nat} : vw_f v nr x y u z n lp lr 3 i = if i = nr then lp else v 3 i := by simp [vw_f]
theorem vw_4 {lp lr : Int} {i : Nat} : vw_f v nr x y u z n lp lr 4 i = if i = nr then lr else v 4 i := by simp [vw_f]
theorem vw_5 {lp lr : Int} {i : Nat} : vw_f v nr x y u z n lp lr 5 i = v 5 i := by simp [vw_f]
theorem wi_pe (h : pe_C f v nr) (hnow : 0 ≤ f 0 6 ∧ f 0 6 ≤ 90000) (hdt : 0 ≤ f 0 7 ∧ f 0 7 ≤ 200) (hwt : 0 ≤ f 0 8 ∧ f 0 8 ≤ 60) (hw : ((0 ≤ x ∧ x ≤ 20) ∧ (0 ≤ y ∧ y ≤ 20)) ∧ ((0 ≤ u ∧ u ≤ 20) ∧ (0 ≤ z ∧ z ≤ 20)) ∧ 1 ≤ n ∧ n ≤ 6) :
    pe_C (wi_T f nr x y u z n) (vw_f v nr x y u z n (f 0 6 + f 0 8) (pd_d x y u z * (100 + f 0 7) / 100)) nr := by
  obtain ⟨a0, a1, a2, a3, a4, a5, a6, a7, a8⟩ := wi_at (f := f) (nr := nr) (x := x) (y := y) (u := u) (z := z) (n := n)
  refine ⟨fun q hq => ?_, fun r hr => ?_⟩
  · rw [vw_0, vw_1]
    unfold pd_x pd_y
    by_cases hn : q / 2 = nr
    · rw [hn, a0, a1, a2, a3, if_pos rfl, if_pos rfl]
      split
      · exact ⟨rfl, rfl, by omega, by omega⟩
      · exact ⟨rfl, rfl, by omega, by omega⟩
    · have h1 := h.1 q hq
      unfold pd_x pd_y at h1
      rw [wi_row (by omega), if_neg hn, if_neg hn]
      exact h1
  · rw [vw_2, vw_3, vw_4, vw_5]
    by_cases hn : r = nr
    · subst hn
      have hp := pd_b hw.1.1 hw.1.2 hw.2.1.1 hw.2.1.2
      have hm : 0 ≤ pd_d x y u z * (100 + f 0 7) ∧ pd_d x y u z * (100 + f 0 7) ≤ 40 * 300 := ⟨Int.mul_nonneg (by omega) (by omega), Int.mul_le_mul (by omega) (by omega) (by omega) (by omega)⟩
      have h1 := h.2 r (Nat.le_refl _)
      rw [a4, a6, a7, a8 11 (by decide), h1.2.2.2.1, if_pos rfl, if_pos rfl, if_pos rfl]
      exact ⟨rfl, rfl, rfl, rfl, by omega, by omega, by omega, h1.2.2.2.2.2.2.2⟩
    · rw [wi_row (by omega), if_neg hn, if_neg hn, if_neg hn]
      exact h.2 r hr
end WI
theorem wi_wd {f v : Nat → Nat → Int} {w : Nat × Nat × Int64 × UInt64} {TS : Nat → List Nat} {x y u z n : Int} (hD : wd_C f w v TS) (hnow : 0 ≤ f 0 6 ∧ f 0 6 ≤ 90000) (hdt : 0 ≤ f 0 7 ∧ f 0 7 ≤ 200) (hwt : 0 ≤ f 0 8 ∧ f 0 8 ≤ 60) (hw : ((0 ≤ x ∧ x ≤ 20) ∧ (0 ≤ y ∧ y ≤ 20)) ∧ ((0 ≤ u ∧ u ≤ 20) ∧ (0 ≤ z ∧ z ≤ 20)) ∧ 1 ≤ n ∧ n ≤ 6) :
    wd_C (wi_T f w.2.1 x y u z n) w (vw_f v w.2.1 x y u z n (f 0 6 + f 0 8) (pd_d x y u z * (100 + f 0 7) / 100)) TS := by
  obtain ⟨h1, h2, h3, h4, h5, h6⟩ := hD
  exact ⟨h1, h2, wi_pe h3 hnow hdt hwt hw, fun b hb => by unfold pb_B; rw [wi_row (by omega)]; exact h4 b hb, fun b hb => ts_same (h5 b hb) (wi_row (by omega)) (wi_row (by omega)), h6⟩
theorem pe_b_rows {v : Nat → Nat → Int} {B B2 : Nat → Nat → Int} {TS : Nat → List Nat} {r : Nat} {now : Int} : ∀ {n : Nat} (_ : ∀ b, b < n → B b = B2 b) (s : pe_S), pe_b v B TS r now n s = pe_b v B2 TS r now n s
  | 0, _, _ => rfl
  | n + 1, h, s => by rw [pe_b, pe_b, h n (Nat.lt_succ_self _), pe_b_rows (fun b hb => h b (Nat.lt_succ_of_lt hb))]
theorem pa_b_rows {v : Nat → Nat → Int} {B B2 : Nat → Nat → Int} {TS : Nat → List Nat} {r : Nat} {now : Int} : ∀ {n : Nat} (_ : ∀ b, b < n → B b = B2 b) (s : pa_S), pa_b v B TS r now n s = pa_b v B2 TS r now n s
  | 0, _, _ => rfl
  | n + 1, h, s => by rw [pa_b, pa_b, h n (Nat.lt_succ_self _), pa_b_rows (fun b hb => h b (Nat.lt_succ_of_lt hb))]
/-- throws X, the table known by P -/
def ab_FX (ad : Nat → Nat) (w : Nat × Nat × Int64 × UInt64) (X : String) (P : (Nat → Nat → Int) → Prop) : ab_P := fun oc x ad1 z => x = ab_x4 ∧ ad1 = ad ∧ z.2 = w ∧ oc = .inr X ∧ P z.1
theorem ab_FX_of {ad : Nat → Nat} {w : Nat × Nat × Int64 × UInt64} {X : String} {P : (Nat → Nat → Int) → Prop} {f : Nat → Nat → Int} (h : P f) : ab_FX ad w X P (.inr X) ab_x4 ad (f, w) := ⟨rfl, rfl, rfl, rfl, h⟩
/-- the worst ride of the first k requests -/
def wr_f (f : Nat → Nat → Int) : Nat → Int
  | 0 => -1
  | k + 1 => if f (300 + k) 8 = 100 then max (wr_f f k) (f (300 + k) 12 - f (300 + k) 11 - f (300 + k) 5) else wr_f f k
section WR
variable {f : Nat → Nat → Int} {k nr : Nat}
theorem wr_y (h : f (300 + k) 8 = 100) : wr_f f (k + 1) = max (wr_f f k) (f (300 + k) 12 - f (300 + k) 11 - f (300 + k) 5) := if_pos h
theorem wr_n (h : ¬ f (300 + k) 8 = 100) : wr_f f (k + 1) = wr_f f k := if_neg h
theorem wr_b (h : ∀ k, k < nr → st_ok (f (300 + k) 8) ∧ (0 ≤ f (300 + k) 12 ∧ f (300 + k) 12 ≤ 100000) ∧ (0 ≤ f (300 + k) 11 ∧ f (300 + k) 11 ≤ 100000) ∧ 0 ≤ f (300 + k) 5 ∧ f (300 + k) 5 ≤ 1000) : ∀ k, k ≤ nr → -1 ≤ wr_f f k ∧ wr_f f k ≤ 100000
  | 0, _ => by
    unfold wr_f
    omega
  | k + 1, hk => by
    have h1 := wr_b h k (by omega)
    have h2 := h k (by omega)
    rw [wr_f]
    split
    · omega
    · exact h1
end WR
set_option maxRecDepth 20000 in
set_option maxHeartbeats 2000000 in
theorem c_cancel {l : Launch} {E : ab_E} {base : Nat} (hl : l.stackTraces = false) {ad : Nat → Nat} (f : Nat → Nat → Int) (w : Nat × Nat × Int64 × UInt64) (hr : w.2.1 ≤ 30) {v : Nat → Nat → Int} (hv : pe_C f v w.2.1) (r : Nat) (hrn : r < w.2.1) (hst : f (300 + r) 8 = 119) {b : Nat} (hb : b < w.1) (h4 : w.1 ≤ 4) (hrb : f (300 + r) 10 = (b : Int)) (hB : pb_B f (200 + b)) {S : List Nat} (hS : ts_I f (200 + b + 10) S) (hq : ∀ j, j < S.length → S.getD j 0 / 2 ≤ w.2.1) (hnow : 0 ≤ f 0 6 ∧ f 0 6 ≤ 100000) (n : Nat) (hn : f 4 4 = (n : Int)) (h60 : n + S.length ≤ 60)  : ab_M l E base yX9_cancel cX9_cancel 4 (some .int) 8 0 0 [.ref (ad 0), ii_v ((r : Nat) : Int)] ab_x4 ad (f, w) (ab_F ad w (fun ov g => ov = some (ii_v (f (200 + b) 0)) ∧ ts_I g (200 + b + 10) (((S.erase (2 * r)).erase (2 * r + 1)).drop (du_n v (f (200 + b) 6) (f (200 + b) 7) ((S.erase (2 * r)).erase (2 * r + 1)))) ∧ ∀ o2, o2 ≠ 200 + b + 10 → o2 ≠ 200 + b + 10 + 10 → g o2 = md_T (ii_up f (300 + r) 8 99) b (((S.erase (2 * r)).erase (2 * r + 1)).take (du_n v (f (200 + b) 6) (f (200 + b) 7) ((S.erase (2 * r)).erase (2 * r + 1)))) o2)) := by
  obtain ⟨Post, hPost⟩ : ∃ P : ab_P, P = (ab_F ad w (fun ov g => ov = some (ii_v (f (200 + b) 0)) ∧ ts_I g (200 + b + 10) (((S.erase (2 * r)).erase (2 * r + 1)).drop (du_n v (f (200 + b) 6) (f (200 + b) 7) ((S.erase (2 * r)).erase (2 * r + 1)))) ∧ ∀ o2, o2 ≠ 200 + b + 10 → o2 ≠ 200 + b + 10 + 10 → g o2 = md_T (ii_up f (300 + r) 8 99) b (((S.erase (2 * r)).erase (2 * r + 1)).take (du_n v (f (200 + b) 6) (f (200 + b) 7) ((S.erase (2 * r)).erase (2 * r + 1)))) o2)) := ⟨_, rfl⟩
  rw [← hPost]
  refine ab_of RX9 [(0, .ref (ad 0)), (1, ii_v ((r : Nat) : Int))] hl (by decide) rfl (Nat.le_of_ble_eq_true rfl) rfl ?_
  intro p e s m args below meth c C T0 hnm
  have hq2 := er_ok (2 * r + 1) (er_ok (2 * r) hq)
  have hl2 : ((S.erase (2 * r)).erase (2 * r + 1)).length ≤ S.length := Nat.le_trans (er_le _ _) (er_le _ _)
  refine a_aload_n C dX9_cancel_0 rfl ?_
  refine a_iload_n C dX9_cancel_1 rfl ?_
  refine a_callV (o := 0) (As := [ii_v ((r : Nat) : Int)]) C (c_keptReq hl f w hr r hrn) co_X9_keptRequest in_X9 ml_X9_176 im_X9_keptRequest se_X9_keptRequest rfl rfl ar_X9_keptRequest ⟨by decide, by decide, by decide, by decide⟩ rfl (Nat.le_of_ble_eq_true rfl) dX9_cancel_2 (a_dR ?_) a_nR
  refine a_astore_n (L' := [(0, .ref (ad 0)), (1, ii_v ((r : Nat) : Int)), (2, .ref (ad (300 + r)))]) C dX9_cancel_5 (by decide) rfl ?_
  refine a_aload_n C dX9_cancel_6 rfl ?_
  refine a_getN (ci := 7) (i := 8) (v := ii_v (f (300 + r) 8)) C iw_X6 rfl (by decide) rfl fn_X9_132 (ob_req (Nat.le_of_lt hrn)) rfl dX9_cancel_7 ?_
  refine a_bipush C dX9_cancel_10 (by decide) ?_
  refine a_icmp_eq (tgt := 25) C dX9_cancel_12 rfl (by unfold ii_B; omega) (by unfold ii_B; omega) (fun h12 => ?_) (fun h12 => ?_)
  · skip
    refine a_aload_n C dX9_cancel_25 rfl ?_
    refine a_bipush C dX9_cancel_26 (by decide) ?_
    refine a_putN (ci := 7) (i := 8) C iw_X6 rfl (by decide) rfl tyX6 tyX6_ok nmX6 rfl rfl fn_X9_132 (ob_req (Nat.le_of_lt hrn)) rfl (by decide) rfl dX9_cancel_28 ?_
    obtain ⟨g1, eg1⟩ : ∃ F : Nat → Nat → Int, F = ii_up f (300 + r) 8 99 := ⟨_, rfl⟩
    rw [← eg1]
    refine a_aload_n C dX9_cancel_31 rfl ?_
    refine a_aload_n C dX9_cancel_32 rfl ?_
    refine a_getN (ci := 7) (i := 10) (v := ii_v (g1 (300 + r) 10)) C iw_X6 rfl (by decide) rfl fn_X9_141 (ob_req (Nat.le_of_lt hrn)) rfl dX9_cancel_33 ?_
    refine a_top (w := ii_v (f (300 + r) 10)) (congrArg (fun q => ii_v q) (show g1 (300 + r) 10 = (f (300 + r) 10) by rw [eg1, ii_up_k _ _ (by first | decide | omega)])) ?_
    rw [hrb]
    refine a_callV (o := 0) (As := [ii_v ((b : Nat) : Int)]) C (c_keptBus hl g1 w hb h4) co_X9_keptBus in_X9 ml_X9_182 im_X9_keptBus se_X9_keptBus rfl rfl ar_X9_keptBus ⟨by decide, by decide, by decide, by decide⟩ rfl (Nat.le_of_ble_eq_true rfl) dX9_cancel_36 (a_dR ?_) a_nR
    refine a_astore_n (L' := [(0, .ref (ad 0)), (1, ii_v ((r : Nat) : Int)), (2, .ref (ad (300 + r))), (3, .ref (ad (200 + b)))]) C dX9_cancel_39 (by decide) rfl ?_
    refine a_aload_n C dX9_cancel_40 rfl ?_
    refine a_getN (ci := 2) (i := 5) (v := .ref (ad (200 + b + 10))) C iw_X1 rfl (by decide) rfl fn_X9_142 (ob_bus hb h4) rfl dX9_cancel_41 ?_
    refine a_iload_n C dX9_cancel_44 rfl ?_
    refine a_callS (As := [ii_v ((r : Nat) : Int)]) C (c_pickupOf hl g1 w r) co_X9_pickupOf in_X9 ml_X9_186 sc_X9_pickupOf ar_X9_pickupOf ⟨by decide, by decide, by decide, by decide⟩ rfl (Nat.le_of_ble_eq_true rfl) dX9_cancel_45 (a_dR ?_) a_nR
    refine a_callVN (o := 200 + b + 10) (As := [ii_v (((2 * r) : Nat) : Int)]) C (c_removeStop hl g1 w (ob_btour hb h4) (ar_btour hb h4) (ts_same hS (by rw [eg1]; exact ii_up_row _ _ (by omega)) (by rw [eg1]; exact ii_up_row _ _ (by omega))) (2 * r) (by omega)) co_X7_removeStop in_X7 mn_X9_190 im_X7_removeStop se_X7_removeStop rfl (ob_btour hb h4) ar_X7_removeStop ⟨by decide, by decide, by decide, by decide⟩ rfl (Nat.le_of_ble_eq_true rfl) dX9_cancel_48 (a_dF ?_) a_nF
    intro vg2 g2 hvg2
    obtain ⟨rfl, hsg2, hfg2⟩ := hvg2
    have hhg2 : ∀ o, o ≠ 200 + b + 10 → o ≠ 200 + b + 10 + 10 → g2 o = ii_up f (300 + r) 8 99 o := fun o h1 h2 => by rw [hfg2 o h1 h2, eg1]
    refine a_aload_n C dX9_cancel_51 rfl ?_
    refine a_getN (ci := 2) (i := 5) (v := .ref (ad (200 + b + 10))) C iw_X1 rfl (by decide) rfl fn_X9_142 (ob_bus hb h4) rfl dX9_cancel_52 ?_
    refine a_iload_n C dX9_cancel_55 rfl ?_
    refine a_callS (As := [ii_v ((r : Nat) : Int)]) C (c_dropOf hl g2 w r) co_X9_dropOf in_X9 ml_X9_194 sc_X9_dropOf ar_X9_dropOf ⟨by decide, by decide, by decide, by decide⟩ rfl (Nat.le_of_ble_eq_true rfl) dX9_cancel_56 (a_dR ?_) a_nR
    refine a_callVN (o := 200 + b + 10) (As := [ii_v (((2 * r + 1) : Nat) : Int)]) C (c_removeStop hl g2 w (ob_btour hb h4) (ar_btour hb h4) hsg2 (2 * r + 1) (by omega)) co_X7_removeStop in_X7 mn_X9_190 im_X7_removeStop se_X7_removeStop rfl (ob_btour hb h4) ar_X7_removeStop ⟨by decide, by decide, by decide, by decide⟩ rfl (Nat.le_of_ble_eq_true rfl) dX9_cancel_59 (a_dF ?_) a_nF
    intro vg3 g3 hvg3
    obtain ⟨rfl, hsg3, hfg3⟩ := hvg3
    have hhg3 : ∀ o, o ≠ 200 + b + 10 → o ≠ 200 + b + 10 + 10 → g3 o = ii_up f (300 + r) 8 99 o := fun o h1 h2 => (hfg3 o h1 h2).trans (hhg2 o h1 h2)
    have hwg3 : g3 (200 + b) = f (200 + b) := (hhg3 _ (by omega) (by omega)).trans (ii_up_row _ _ (by omega))
    have h0g3 : g3 0 = f 0 := (hhg3 _ (by omega) (by omega)).trans (ii_up_row _ _ (by omega))
    have h4g3 : g3 4 = f 4 := (hhg3 _ (by omega) (by omega)).trans (ii_up_row _ _ (by omega))
    have hvp : pe_C g3 v w.2.1 := pe_same (pe_up hv (by decide)) (fun o2 h => hhg3 o2 (by omega) (by omega))
    refine a_aload_n C dX9_cancel_62 rfl ?_
    refine a_aload_n C dX9_cancel_63 rfl ?_
    refine a_callV (o := 0) (As := [.ref (ad (200 + b))]) C (c_due hl g3 w hr hvp hb h4 (by unfold pb_B; rw [hwg3]; exact hB) hsg3 hq2 (by rw [h0g3]; exact hnow) n (by rw [h4g3]; exact hn) (by omega)) co_X9_makeDueStops in_X9 ml_X9_159 im_X9_makeDueStops se_X9_makeDueStops rfl rfl ar_X9_makeDueStops ⟨by decide, by decide, by decide, by decide⟩ rfl (Nat.le_of_ble_eq_true rfl) dX9_cancel_64 (a_dF ?_) a_nF
    intro vg4 g4 hvg4
    obtain ⟨rfl, hsg4, hfg4⟩ := hvg4
    rw [hwg3] at hsg4 hfg4
    refine a_pop C dX9_cancel_67 rfl ?_
    refine a_aload_n C dX9_cancel_68 rfl ?_
    refine a_getN (ci := 2) (i := 0) (v := ii_v (g4 (200 + b) 0)) C iw_X1 rfl (by decide) rfl fn_X9_138 (ob_bus hb h4) rfl dX9_cancel_69 ?_
    refine a_iret C ?_ (by decide) (by decide) dX9_cancel_72
    rw [hPost]
    have hfr : ∀ o2, o2 ≠ 200 + b + 10 → o2 ≠ 200 + b + 10 + 10 → g4 o2 = md_T (ii_up f (300 + r) 8 99) b (((S.erase (2 * r)).erase (2 * r + 1)).take (du_n v (f (200 + b) 6) (f (200 + b) 7) ((S.erase (2 * r)).erase (2 * r + 1)))) o2 := fun o2 h1 h2 => (hfg4 o2 h1 h2).trans (md_cong (P := fun o => o ≠ 200 + b + 10 ∧ o ≠ 200 + b + 10 + 10) ⟨by omega, by omega, by omega, fun r => by omega⟩ (fun o h => hhg3 o h.1 h.2) _ o2 ⟨h1, h2⟩)
    refine ab_F_of ⟨rt_j ?_, hsg4, hfr⟩
    rw [hfr _ (by omega) (by omega), md_bus (by omega) (by decide), ii_up_row _ _ (by omega)]
  · skip
    exact absurd hst h12
set_option maxRecDepth 20000 in
set_option maxHeartbeats 2000000 in
theorem c_improve {l : Launch} {E : ab_E} {base : Nat} (hl : l.stackTraces = false) {ad : Nat → Nat} (f : Nat → Nat → Int) (w : Nat × Nat × Int64 × UInt64) (hr : w.2.1 ≤ 30) {v : Nat → Nat → Int} (hv : pe_C f v w.2.1) {b : Nat} (hb : b < w.1) (h4 : w.1 ≤ 4) (hB : pb_B f (200 + b)) {S : List Nat} (hS : ts_I f (200 + b + 10) S) (hq : ∀ j, j < S.length → S.getD j 0 / 2 ≤ w.2.1) (hS6 : S.length ≤ 6) (hnd : nd_L S) (hnow : 0 ≤ f 0 6 ∧ f 0 6 ≤ 100000) (n : Nat) (hn : f 4 4 = (n : Int)) (h60 : n + S.length ≤ 60)  : ab_M l E base yX9_improve cX9_improve 5 (some .int) 10 0 0 [.ref (ad 0), ii_v ((b : Nat) : Int)] ab_x4 ad (f, w) (ab_F ad w (fun ov g => ∃ O1 F, so_P true 0 S O1 ∧ pm_L S F ∧ oe_R v (f (200 + b)) (f 0 6) 720 O1 S (pl_len v (f (200 + b) 3) (f (200 + b) 4) S (f (200 + b) 6) (f (200 + b) 7) + 1) F ∧ ov = some (ii_v (pl_len v (f (200 + b) 3) (f (200 + b) 4) S (f (200 + b) 6) (f (200 + b) 7) - pl_len v (f (200 + b) 3) (f (200 + b) 4) F (f (200 + b) 6) (f (200 + b) 7))) ∧ ts_I g (200 + b + 10) (F.drop (du_n v (f (200 + b) 6) (f (200 + b) 7) F)) ∧ ∀ o2, o2 ≠ 10 → o2 ≠ 11 → o2 ≠ 12 → o2 ≠ 15 → o2 ≠ 16 → o2 ≠ 17 → o2 ≠ 25 → o2 ≠ 26 → o2 ≠ 200 + b + 10 → o2 ≠ 200 + b + 10 + 10 → g o2 = md_T f b (F.take (du_n v (f (200 + b) 6) (f (200 + b) 7) F)) o2)) := by
  obtain ⟨Post, hPost⟩ : ∃ P : ab_P, P = (ab_F ad w (fun ov g => ∃ O1 F, so_P true 0 S O1 ∧ pm_L S F ∧ oe_R v (f (200 + b)) (f 0 6) 720 O1 S (pl_len v (f (200 + b) 3) (f (200 + b) 4) S (f (200 + b) 6) (f (200 + b) 7) + 1) F ∧ ov = some (ii_v (pl_len v (f (200 + b) 3) (f (200 + b) 4) S (f (200 + b) 6) (f (200 + b) 7) - pl_len v (f (200 + b) 3) (f (200 + b) 4) F (f (200 + b) 6) (f (200 + b) 7))) ∧ ts_I g (200 + b + 10) (F.drop (du_n v (f (200 + b) 6) (f (200 + b) 7) F)) ∧ ∀ o2, o2 ≠ 10 → o2 ≠ 11 → o2 ≠ 12 → o2 ≠ 15 → o2 ≠ 16 → o2 ≠ 17 → o2 ≠ 25 → o2 ≠ 26 → o2 ≠ 200 + b + 10 → o2 ≠ 200 + b + 10 + 10 → g o2 = md_T f b (F.take (du_n v (f (200 + b) 6) (f (200 + b) 7) F)) o2)) := ⟨_, rfl⟩
  rw [← hPost]
  refine ab_of RX9 [(0, .ref (ad 0)), (1, ii_v ((b : Nat) : Int))] hl (by decide) rfl (Nat.le_of_ble_eq_true rfl) rfl ?_
  intro p e s m args below meth c C T0 hnm
  refine a_aload_n C dX9_improve_0 rfl ?_
  refine a_iload_n C dX9_improve_1 rfl ?_
  refine a_callV (o := 0) (As := [ii_v ((b : Nat) : Int)]) C (c_keptBus hl f w hb h4) co_X9_keptBus in_X9 ml_X9_182 im_X9_keptBus se_X9_keptBus rfl rfl ar_X9_keptBus ⟨by decide, by decide, by decide, by decide⟩ rfl (Nat.le_of_ble_eq_true rfl) dX9_improve_2 (a_dR ?_) a_nR
  refine a_astore_n (L' := [(0, .ref (ad 0)), (1, ii_v ((b : Nat) : Int)), (2, .ref (ad (200 + b)))]) C dX9_improve_5 (by decide) rfl ?_
  refine a_aload_n C dX9_improve_6 rfl ?_
  refine a_get (ci := 10) (i := 3) (v := .ref (ad 9)) C iw_X9 rfl (by decide) rfl fl_X9_35 rfl rfl dX9_improve_7 ?_
  refine a_aload_n C dX9_improve_10 rfl ?_
  refine a_aload_n C dX9_improve_11 rfl ?_
  refine a_getN (ci := 2) (i := 5) (v := .ref (ad (200 + b + 10))) C iw_X1 rfl (by decide) rfl fn_X9_142 (ob_bus hb h4) rfl dX9_improve_12 ?_
  refine a_callVN (o := 9) (As := [.ref (ad (200 + b)), .ref (ad (200 + b + 10))]) C (c_lengthOf hl f w hr hv (ob_bus hb h4) hB (ob_btour hb h4) (ar_btour hb h4) hS hq) co_X3_lengthOf in_X3 mn_X9_239 im_X3_lengthOf se_X3_lengthOf rfl rfl ar_X3_lengthOf ⟨by decide, by decide, by decide, by decide⟩ rfl (Nat.le_of_ble_eq_true rfl) dX9_improve_15 (a_dR ?_) a_nR
  refine a_istore_n (L' := [(0, .ref (ad 0)), (1, ii_v ((b : Nat) : Int)), (2, .ref (ad (200 + b))), (3, ii_v (pl_len v (f (200 + b) 3) (f (200 + b) 4) S (f (200 + b) 6) (f (200 + b) 7)))]) C dX9_improve_18 (by decide) rfl ?_
  refine a_aload_n C dX9_improve_19 rfl ?_
  refine a_get (ci := 10) (i := 5) (v := .ref (ad 17)) C iw_X9 rfl (by decide) rfl fl_X9_54 rfl rfl dX9_improve_20 ?_
  refine a_aload_n C dX9_improve_23 rfl ?_
  refine a_aload_n C dX9_improve_24 rfl ?_
  refine a_get (ci := 10) (i := 6) (v := ii_v (f 0 6)) C iw_X9 rfl (by decide) rfl fl_X9_58 rfl rfl dX9_improve_25 ?_
  refine a_callVN (o := 17) (As := [.ref (ad (200 + b)), ii_v (f 0 6)]) C (c_otryEarly hl f w hr hv hb h4 hB hS hq hS6 hnd (f 0 6) hnow) co_X5_tryEarly in_X5 mn_X9_243 im_X5_tryEarly se_X5_tryEarly rfl rfl ar_X5_tryEarly ⟨by decide, by decide, by decide, by decide⟩ rfl (Nat.le_of_ble_eq_true rfl) dX9_improve_28 (a_dF ?_) a_nF
  intro vg1 g1 hvg1
  obtain ⟨rfl, ⟨O1, F, hp1, hFg1, hpF, hoF⟩, hfg1⟩ := hvg1
  have hwg1 : g1 (200 + b) = f (200 + b) := hfg1 _ (by omega) (by omega) (by omega) (by omega) (by omega) (by omega) (by omega) (by omega)
  refine a_aload_n C dX9_improve_31 rfl ?_
  refine a_getN (ci := 2) (i := 5) (v := .ref (ad (200 + b + 10))) C iw_X1 rfl (by decide) rfl fn_X9_142 (ob_bus hb h4) rfl dX9_improve_32 ?_
  refine a_aload_n C dX9_improve_35 rfl ?_
  refine a_get (ci := 10) (i := 5) (v := .ref (ad 17)) C iw_X9 rfl (by decide) rfl fl_X9_54 rfl rfl dX9_improve_36 ?_
  refine a_getN (ci := 6) (i := 3) (v := .ref (ad 16)) C iw_X5 rfl (by decide) rfl fn_X9_246 rfl rfl dX9_improve_39 ?_
  refine a_callVN (o := 200 + b + 10) (As := [.ref (ad 16)]) C (c_copyFrom hl g1 w (ob_btour hb h4) (ar_btour hb h4) rfl rfl hFg1 ⟨by omega, by omega, by omega, by omega⟩) co_X7_copyFrom in_X7 mn_X9_153 im_X7_copyFrom se_X7_copyFrom rfl (ob_btour hb h4) ar_X7_copyFrom ⟨by decide, by decide, by decide, by decide⟩ rfl (Nat.le_of_ble_eq_true rfl) dX9_improve_42 (a_dF ?_) a_nF
  intro vg2 g2 hvg2
  obtain ⟨rfl, hsg2, hfg2⟩ := hvg2
  have hwg2 : g2 (200 + b) = f (200 + b) := (hfg2 _ (by omega) (by omega)).trans (hfg1 _ (by omega) (by omega) (by omega) (by omega) (by omega) (by omega) (by omega) (by omega))
  have h0g2 : g2 0 = f 0 := (hfg2 _ (by omega) (by omega)).trans (hfg1 _ (by omega) (by omega) (by omega) (by omega) (by omega) (by omega) (by omega) (by omega))
  have h4g2 : g2 4 = f 4 := (hfg2 _ (by omega) (by omega)).trans (hfg1 _ (by omega) (by omega) (by omega) (by omega) (by omega) (by omega) (by omega) (by omega))
  have hvp : pe_C g2 v w.2.1 := pe_same hv (fun o2 h => (hfg2 _ (by omega) (by omega)).trans (hfg1 _ (by omega) (by omega) (by omega) (by omega) (by omega) (by omega) (by omega) (by omega)))
  refine a_aload_n C dX9_improve_45 rfl ?_
  refine a_get (ci := 10) (i := 3) (v := .ref (ad 9)) C iw_X9 rfl (by decide) rfl fl_X9_35 rfl rfl dX9_improve_46 ?_
  refine a_aload_n C dX9_improve_49 rfl ?_
  refine a_aload_n C dX9_improve_50 rfl ?_
  refine a_getN (ci := 2) (i := 5) (v := .ref (ad (200 + b + 10))) C iw_X1 rfl (by decide) rfl fn_X9_142 (ob_bus hb h4) rfl dX9_improve_51 ?_
  refine a_callVN (o := 9) (As := [.ref (ad (200 + b)), .ref (ad (200 + b + 10))]) C (c_lengthOf hl g2 w hr hvp (ob_bus hb h4) (by unfold pb_B; rw [hwg2]; exact hB) (ob_btour hb h4) (ar_btour hb h4) hsg2 (pm_ok hpF hq)) co_X3_lengthOf in_X3 mn_X9_239 im_X3_lengthOf se_X3_lengthOf rfl rfl ar_X3_lengthOf ⟨by decide, by decide, by decide, by decide⟩ rfl (Nat.le_of_ble_eq_true rfl) dX9_improve_54 (a_dR ?_) a_nR
  rw [hwg2]
  refine a_istore (L' := [(0, .ref (ad 0)), (1, ii_v ((b : Nat) : Int)), (2, .ref (ad (200 + b))), (3, ii_v (pl_len v (f (200 + b) 3) (f (200 + b) 4) S (f (200 + b) 6) (f (200 + b) 7))), (4, ii_v (pl_len v (f (200 + b) 3) (f (200 + b) 4) F (f (200 + b) 6) (f (200 + b) 7)))]) C dX9_improve_57 (by decide) rfl ?_
  refine a_aload_n C dX9_improve_59 rfl ?_
  refine a_aload_n C dX9_improve_60 rfl ?_
  refine a_callV (o := 0) (As := [.ref (ad (200 + b))]) C (c_due hl g2 w hr hvp hb h4 (by unfold pb_B; rw [hwg2]; exact hB) hsg2 (pm_ok hpF hq) (by rw [h0g2]; exact hnow) n (by rw [h4g2]; exact hn) (by rw [hpF.1]; exact h60)) co_X9_makeDueStops in_X9 ml_X9_159 im_X9_makeDueStops se_X9_makeDueStops rfl rfl ar_X9_makeDueStops ⟨by decide, by decide, by decide, by decide⟩ rfl (Nat.le_of_ble_eq_true rfl) dX9_improve_61 (a_dF ?_) a_nF
  intro vg3 g3 hvg3
  obtain ⟨rfl, hsg3, hfg3⟩ := hvg3
  rw [hwg2] at hsg3 hfg3
  refine a_pop C dX9_improve_64 rfl ?_
  refine a_iload_n C dX9_improve_65 rfl ?_
  refine a_iload C dX9_improve_66 rfl ?_
  refine a_isub C dX9_improve_68 ?_
  refine a_iret C ?_ (by decide) (by decide) dX9_improve_69
  rw [hPost]
  refine ab_F_of ⟨O1, F, hp1, hpF, hoF, rfl, hsg3, fun o2 h1 h2 h3 h4 h5 h6 h7 h8 h9 h10 => (hfg3 o2 h9 h10).trans (md_cong (P := fun o => (o ≠ 10 ∧ o ≠ 11 ∧ o ≠ 12 ∧ o ≠ 15 ∧ o ≠ 16 ∧ o ≠ 17 ∧ o ≠ 25 ∧ o ≠ 26) ∧ o ≠ 200 + b + 10 ∧ o ≠ 200 + b + 10 + 10) ⟨by omega, by omega, by omega, fun r => by omega⟩ (fun o h => (hfg2 o h.2.1 h.2.2).trans (hfg1 o h.1.1 h.1.2.1 h.1.2.2.1 h.1.2.2.2.1 h.1.2.2.2.2.1 h.1.2.2.2.2.2.1 h.1.2.2.2.2.2.2.1 h.1.2.2.2.2.2.2.2)) _ o2 ⟨⟨h1, h2, h3, h4, h5, h6, h7, h8⟩, h9, h10⟩)⟩
set_option maxRecDepth 20000 in
set_option maxHeartbeats 2000000 in
theorem c_quote {l : Launch} {E : ab_E} {base : Nat} (hl : l.stackTraces = false) {ad : Nat → Nat} (f : Nat → Nat → Int) (w : Nat × Nat × Int64 × UInt64) {v : Nat → Nat → Int} {TS : Nat → List Nat} (hD : wd_C f w v TS) (x y u z n : Int) (zx : -2147483648 ≤ x ∧ x < 2147483648) (zy : -2147483648 ≤ y ∧ y < 2147483648) (zu : -2147483648 ≤ u ∧ u < 2147483648) (zz : -2147483648 ≤ z ∧ z < 2147483648) (zn : -2147483648 ≤ n ∧ n < 2147483648) (hnow : 0 ≤ f 0 6 ∧ f 0 6 ≤ 90000) (hdt : 0 ≤ f 0 7 ∧ f 0 7 ≤ 200) (hwt : 0 ≤ f 0 8 ∧ f 0 8 ≤ 60) (h : (((0 ≤ x ∧ x ≤ 20) ∧ (0 ≤ y ∧ y ≤ 20)) ∧ ((0 ≤ u ∧ u ≤ 20) ∧ (0 ≤ z ∧ z ≤ 20)) ∧ 1 ≤ n ∧ n ≤ 6)) (h2 : ¬ (x = u ∧ y = z)) (hfd : 0 ≤ (pe_b (vw_f v w.2.1 x y u z n (f 0 6 + f 0 8) (pd_d x y u z * (100 + f 0 7) / 100)) (fun b => f (200 + b)) TS w.2.1 (f 0 6) w.1 (-1, f 13 4, f 13 5, 1000000)).1) : ab_M l E base yX9_quote cX9_quote 6 (some .int) 11 0 0 [.ref (ad 0), ii_v x, ii_v y, ii_v u, ii_v z, ii_v n] ab_x4 ad (f, w) (ab_F ad w (fun ov g => ov = some (ii_v ((pe_b (vw_f v w.2.1 x y u z n (f 0 6 + f 0 8) (pd_d x y u z * (100 + f 0 7) / 100)) (fun b => f (200 + b)) TS w.2.1 (f 0 6) w.1 (-1, f 13 4, f 13 5, 1000000)).2.2.2)) ∧ ∀ o2, o2 ≠ 10 → o2 ≠ 11 → o2 ≠ 12 → o2 ≠ 13 → o2 ≠ 14 → o2 ≠ 24 → g o2 = (wi_T f w.2.1 x y u z n) o2)) := by
  obtain ⟨Post, hPost⟩ : ∃ P : ab_P, P = (ab_F ad w (fun ov g => ov = some (ii_v ((pe_b (vw_f v w.2.1 x y u z n (f 0 6 + f 0 8) (pd_d x y u z * (100 + f 0 7) / 100)) (fun b => f (200 + b)) TS w.2.1 (f 0 6) w.1 (-1, f 13 4, f 13 5, 1000000)).2.2.2)) ∧ ∀ o2, o2 ≠ 10 → o2 ≠ 11 → o2 ≠ 12 → o2 ≠ 13 → o2 ≠ 14 → o2 ≠ 24 → g o2 = (wi_T f w.2.1 x y u z n) o2)) := ⟨_, rfl⟩
  rw [← hPost]
  refine ab_of RX9 [(0, .ref (ad 0)), (1, ii_v x), (2, ii_v y), (3, ii_v u), (4, ii_v z), (5, ii_v n)] hl (by decide) rfl (Nat.le_of_ble_eq_true rfl) rfl ?_
  intro p e s m args below meth c C T0 hnm
  refine a_aload_n C dX9_quote_0 rfl ?_
  refine a_iload_n C dX9_quote_1 rfl ?_
  refine a_iload_n C dX9_quote_2 rfl ?_
  refine a_iload_n C dX9_quote_3 rfl ?_
  refine a_iload C dX9_quote_4 rfl ?_
  refine a_iload C dX9_quote_6 rfl ?_
  refine a_callV (o := 0) (As := [ii_v x, ii_v y, ii_v u, ii_v z, ii_v n]) C (c_takeWish hl f w x y u z n zx zy zu zz zn ⟨hnow.1, by omega⟩ hdt hwt h h2) co_X9_takeWish in_X9 ml_X9_105 im_X9_takeWish se_X9_takeWish rfl rfl ar_X9_takeWish ⟨by decide, by decide, by decide, by decide⟩ rfl (Nat.le_of_ble_eq_true rfl) dX9_quote_8 (a_dV ?_) a_nV
  obtain ⟨g1, eg1⟩ : ∃ F : Nat → Nat → Int, F = (wi_T f w.2.1 x y u z n) := ⟨_, rfl⟩
  rw [← eg1]
  have hD2 : wd_C g1 w (vw_f v w.2.1 x y u z n (f 0 6 + f 0 8) (pd_d x y u z * (100 + f 0 7) / 100)) TS := by rw [eg1]; exact wi_wd hD hnow hdt hwt h
  have h0g1 : g1 0 = f 0 := by rw [eg1]; exact wi_row (by omega)
  have hr := hD.1
  have h13g1 : g1 13 = f 13 := by rw [eg1]; exact wi_row (by omega)
  refine a_aload_n C dX9_quote_11 rfl ?_
  refine a_get (ci := 10) (i := 4) (v := .ref (ad 13)) C iw_X9 rfl (by decide) rfl fl_X9_47 rfl rfl dX9_quote_12 ?_
  refine a_aload_n C dX9_quote_15 rfl ?_
  refine a_get (ci := 10) (i := 0) (v := .ref (ad 1)) C iw_X9 rfl (by decide) rfl fl_X9_12 rfl rfl dX9_quote_16 ?_
  refine a_aload_n C dX9_quote_19 rfl ?_
  refine a_get (ci := 10) (i := 1) (v := .ref (ad 2)) C iw_X9 rfl (by decide) rfl fl_X9_19 rfl rfl dX9_quote_20 ?_
  refine a_callVN (o := 2) (As := []) C (c_count hl g1 w hr) co_X0_count in_X0 mn_X9_108 im_X0_count se_X0_count rfl rfl ar_X0_count ⟨by decide, by decide, by decide, by decide⟩ rfl (Nat.le_of_ble_eq_true rfl) dX9_quote_23 (a_dR ?_) a_nR
  refine a_aload_n C dX9_quote_26 rfl ?_
  refine a_get (ci := 10) (i := 6) (v := ii_v (g1 0 6)) C iw_X9 rfl (by decide) rfl fl_X9_58 rfl rfl dX9_quote_27 ?_
  refine a_top (w := ii_v (f 0 6)) (congrArg (fun q => ii_v q) (congrFun h0g1 6)) ?_
  refine a_callVN (o := 13) (As := [.ref (ad 1), ii_v ((w.2.1 : Nat) : Int), ii_v (f 0 6)]) C (c_tryEarly hl g1 w hD2 w.2.1 (Nat.le_refl _) (f 0 6) ⟨hnow.1, by omega⟩) co_X2_tryEarly in_X2 mn_X9_167 im_X2_tryEarly se_X2_tryEarly rfl rfl ar_X2_tryEarly ⟨by decide, by decide, by decide, by decide⟩ rfl (Nat.le_of_ble_eq_true rfl) dX9_quote_30 (a_dF ?_) a_nF
  intro vg2 g2 hvg2
  obtain ⟨rfl, hatg2, hbdg2, hfg2⟩ := hvg2
  rw [h13g1] at hatg2
  rw [pe_b_rows (B2 := fun b => f (200 + b)) (fun b hb => (by have := hD.2.1; rw [eg1]; exact wi_row (by omega) : g1 (200 + b) = f (200 + b))) _] at hatg2
  have hat3 := hatg2.1
  refine a_aload_n C dX9_quote_33 rfl ?_
  refine a_callV (o := 0) (As := []) C (c_checkFound hl g2 w hbdg2.1 (by rw [hat3]; exact hfd)) co_X9_checkFound in_X9 ml_X9_170 im_X9_checkFound se_X9_checkFound rfl rfl ar_X9_checkFound ⟨by decide, by decide, by decide, by decide⟩ rfl (Nat.le_of_ble_eq_true rfl) dX9_quote_34 (a_dV ?_) a_nV
  refine a_aload_n C dX9_quote_37 rfl ?_
  refine a_get (ci := 10) (i := 4) (v := .ref (ad 13)) C iw_X9 rfl (by decide) rfl fl_X9_47 rfl rfl dX9_quote_38 ?_
  refine a_getN (ci := 3) (i := 6) (v := ii_v (g2 13 6)) C iw_X2 rfl (by decide) rfl fn_X9_173 rfl rfl dX9_quote_41 ?_
  refine a_top (w := ii_v ((pe_b (vw_f v w.2.1 x y u z n (f 0 6 + f 0 8) (pd_d x y u z * (100 + f 0 7) / 100)) (fun b => f (200 + b)) TS w.2.1 (f 0 6) w.1 (-1, f 13 4, f 13 5, 1000000)).2.2.2)) (congrArg (fun q => ii_v q) hatg2.2.2.2) ?_
  refine a_iret C ?_ (by decide) (by decide) dX9_quote_44
  rw [hPost]
  exact ab_F_of ⟨rfl, fun o2 h1 h2 h3 h4 h5 h6 => by rw [hfg2 o2 h1 h2 h3 h4 h5 h6, eg1]⟩
set_option maxRecDepth 20000 in
set_option maxHeartbeats 2000000 in
theorem x3_quote {l : Launch} {E : ab_E} {base : Nat} (hl : l.stackTraces = false) {ad : Nat → Nat} (f : Nat → Nat → Int) (w : Nat × Nat × Int64 × UInt64) {v : Nat → Nat → Int} {TS : Nat → List Nat} (hD : wd_C f w v TS) (x y u z n : Int) (zx : -2147483648 ≤ x ∧ x < 2147483648) (zy : -2147483648 ≤ y ∧ y < 2147483648) (zu : -2147483648 ≤ u ∧ u < 2147483648) (zz : -2147483648 ≤ z ∧ z < 2147483648) (zn : -2147483648 ≤ n ∧ n < 2147483648) (hnow : 0 ≤ f 0 6 ∧ f 0 6 ≤ 90000) (hdt : 0 ≤ f 0 7 ∧ f 0 7 ≤ 200) (hwt : 0 ≤ f 0 8 ∧ f 0 8 ≤ 60) (h : (((0 ≤ x ∧ x ≤ 20) ∧ (0 ≤ y ∧ y ≤ 20)) ∧ ((0 ≤ u ∧ u ≤ 20) ∧ (0 ≤ z ∧ z ≤ 20)) ∧ 1 ≤ n ∧ n ≤ 6)) (h2 : ¬ (x = u ∧ y = z)) (hfd : (pe_b (vw_f v w.2.1 x y u z n (f 0 6 + f 0 8) (pd_d x y u z * (100 + f 0 7) / 100)) (fun b => f (200 + b)) TS w.2.1 (f 0 6) w.1 (-1, f 13 4, f 13 5, 1000000)).1 < 0) : ab_M l E base yX9_quote cX9_quote 6 (some .int) 11 1 6 [.ref (ad 0), ii_v x, ii_v y, ii_v u, ii_v z, ii_v n] ab_x4 ad (f, w) (ab_FX ad w "java/util/NoSuchElementException" (fun g => ∀ o2, o2 ≠ 10 → o2 ≠ 11 → o2 ≠ 12 → o2 ≠ 13 → o2 ≠ 14 → o2 ≠ 24 → g o2 = (wi_T f w.2.1 x y u z n) o2)) := by
  obtain ⟨Post, hPost⟩ : ∃ P : ab_P, P = (ab_FX ad w "java/util/NoSuchElementException" (fun g => ∀ o2, o2 ≠ 10 → o2 ≠ 11 → o2 ≠ 12 → o2 ≠ 13 → o2 ≠ 14 → o2 ≠ 24 → g o2 = (wi_T f w.2.1 x y u z n) o2)) := ⟨_, rfl⟩
  rw [← hPost]
  refine ab_of RX9 [(0, .ref (ad 0)), (1, ii_v x), (2, ii_v y), (3, ii_v u), (4, ii_v z), (5, ii_v n)] hl (by decide) rfl (Nat.le_of_ble_eq_true rfl) rfl ?_
  intro p e s m args below meth c C T0 hnm
  refine a_aload_n C dX9_quote_0 rfl ?_
  refine a_iload_n C dX9_quote_1 rfl ?_
  refine a_iload_n C dX9_quote_2 rfl ?_
  refine a_iload_n C dX9_quote_3 rfl ?_
  refine a_iload C dX9_quote_4 rfl ?_
  refine a_iload C dX9_quote_6 rfl ?_
  refine a_callV (o := 0) (As := [ii_v x, ii_v y, ii_v u, ii_v z, ii_v n]) C (c_takeWish hl f w x y u z n zx zy zu zz zn ⟨hnow.1, by omega⟩ hdt hwt h h2) co_X9_takeWish in_X9 ml_X9_105 im_X9_takeWish se_X9_takeWish rfl rfl ar_X9_takeWish ⟨by decide, by decide, by decide, by decide⟩ rfl (Nat.le_of_ble_eq_true rfl) dX9_quote_8 (a_dV ?_) a_nV
  obtain ⟨g1, eg1⟩ : ∃ F : Nat → Nat → Int, F = (wi_T f w.2.1 x y u z n) := ⟨_, rfl⟩
  rw [← eg1]
  have hD2 : wd_C g1 w (vw_f v w.2.1 x y u z n (f 0 6 + f 0 8) (pd_d x y u z * (100 + f 0 7) / 100)) TS := by rw [eg1]; exact wi_wd hD hnow hdt hwt h
  have h0g1 : g1 0 = f 0 := by rw [eg1]; exact wi_row (by omega)
  have hr := hD.1
  have h13g1 : g1 13 = f 13 := by rw [eg1]; exact wi_row (by omega)
  refine a_aload_n C dX9_quote_11 rfl ?_
  refine a_get (ci := 10) (i := 4) (v := .ref (ad 13)) C iw_X9 rfl (by decide) rfl fl_X9_47 rfl rfl dX9_quote_12 ?_
  refine a_aload_n C dX9_quote_15 rfl ?_
  refine a_get (ci := 10) (i := 0) (v := .ref (ad 1)) C iw_X9 rfl (by decide) rfl fl_X9_12 rfl rfl dX9_quote_16 ?_
  refine a_aload_n C dX9_quote_19 rfl ?_
  refine a_get (ci := 10) (i := 1) (v := .ref (ad 2)) C iw_X9 rfl (by decide) rfl fl_X9_19 rfl rfl dX9_quote_20 ?_
  refine a_callVN (o := 2) (As := []) C (c_count hl g1 w hr) co_X0_count in_X0 mn_X9_108 im_X0_count se_X0_count rfl rfl ar_X0_count ⟨by decide, by decide, by decide, by decide⟩ rfl (Nat.le_of_ble_eq_true rfl) dX9_quote_23 (a_dR ?_) a_nR
  refine a_aload_n C dX9_quote_26 rfl ?_
  refine a_get (ci := 10) (i := 6) (v := ii_v (g1 0 6)) C iw_X9 rfl (by decide) rfl fl_X9_58 rfl rfl dX9_quote_27 ?_
  refine a_top (w := ii_v (f 0 6)) (congrArg (fun q => ii_v q) (congrFun h0g1 6)) ?_
  refine a_callVN (o := 13) (As := [.ref (ad 1), ii_v ((w.2.1 : Nat) : Int), ii_v (f 0 6)]) C (c_tryEarly hl g1 w hD2 w.2.1 (Nat.le_refl _) (f 0 6) ⟨hnow.1, by omega⟩) co_X2_tryEarly in_X2 mn_X9_167 im_X2_tryEarly se_X2_tryEarly rfl rfl ar_X2_tryEarly ⟨by decide, by decide, by decide, by decide⟩ rfl (Nat.le_of_ble_eq_true rfl) dX9_quote_30 (a_dF ?_) a_nF
  intro vg2 g2 hvg2
  obtain ⟨rfl, hatg2, hbdg2, hfg2⟩ := hvg2
  rw [h13g1] at hatg2
  rw [pe_b_rows (B2 := fun b => f (200 + b)) (fun b hb => (by have := hD.2.1; rw [eg1]; exact wi_row (by omega) : g1 (200 + b) = f (200 + b))) _] at hatg2
  have hat3 := hatg2.1
  refine a_aload_n C dX9_quote_33 rfl ?_
  refine a_callV (o := 0) (As := []) C (x_checkFound hl g2 w hbdg2.1 (by rw [hat3]; exact hfd)) co_X9_checkFound in_X9 ml_X9_170 im_X9_checkFound se_X9_checkFound rfl rfl ar_X9_checkFound ⟨by decide, by decide, by decide, by decide⟩ rfl (Nat.le_of_ble_eq_true rfl) dX9_quote_34 a_nT (a_dT ?_)
  refine a_out C T0 ?_ (by decide) (by decide)
  rw [hPost]
  exact ab_FX_of (fun o2 h1 h2 h3 h4 h5 h6 => by rw [hfg2 o2 h1 h2 h3 h4 h5 h6, eg1])
set_option maxRecDepth 20000 in
set_option maxHeartbeats 2000000 in
theorem x_quote {l : Launch} {E : ab_E} {base : Nat} (hl : l.stackTraces = false) {ad : Nat → Nat} (f : Nat → Nat → Int) (w : Nat × Nat × Int64 × UInt64) (x y u z n : Int) (zx : -2147483648 ≤ x ∧ x < 2147483648) (zy : -2147483648 ≤ y ∧ y < 2147483648) (zu : -2147483648 ≤ u ∧ u < 2147483648) (zz : -2147483648 ≤ z ∧ z < 2147483648) (zn : -2147483648 ≤ n ∧ n < 2147483648) (h : ¬ (((0 ≤ x ∧ x ≤ 20) ∧ (0 ≤ y ∧ y ≤ 20)) ∧ ((0 ≤ u ∧ u ≤ 20) ∧ (0 ≤ z ∧ z ≤ 20)) ∧ 1 ≤ n ∧ n ≤ 6)) : ab_M l E base yX9_quote cX9_quote 6 (some .int) 9 1 6 [.ref (ad 0), ii_v x, ii_v y, ii_v u, ii_v z, ii_v n] ab_x4 ad (f, w) (ab_T "java/lang/IllegalArgumentException" ab_x4 ad (f, w)) := by
  obtain ⟨Post, hPost⟩ : ∃ P : ab_P, P = (ab_T "java/lang/IllegalArgumentException" ab_x4 ad (f, w)) := ⟨_, rfl⟩
  rw [← hPost]
  refine ab_of RX9 [(0, .ref (ad 0)), (1, ii_v x), (2, ii_v y), (3, ii_v u), (4, ii_v z), (5, ii_v n)] hl (by decide) rfl (Nat.le_of_ble_eq_true rfl) rfl ?_
  intro p e s m args below meth c C T0 hnm
  refine a_aload_n C dX9_quote_0 rfl ?_
  refine a_iload_n C dX9_quote_1 rfl ?_
  refine a_iload_n C dX9_quote_2 rfl ?_
  refine a_iload_n C dX9_quote_3 rfl ?_
  refine a_iload C dX9_quote_4 rfl ?_
  refine a_iload C dX9_quote_6 rfl ?_
  refine a_callV (o := 0) (As := [ii_v x, ii_v y, ii_v u, ii_v z, ii_v n]) C (x_takeWish hl f w x y u z n zx zy zu zz zn h) co_X9_takeWish in_X9 ml_X9_105 im_X9_takeWish se_X9_takeWish rfl rfl ar_X9_takeWish ⟨by decide, by decide, by decide, by decide⟩ rfl (Nat.le_of_ble_eq_true rfl) dX9_quote_8 a_nT (a_dT ?_)
  refine a_out C T0 ?_ (by decide) (by decide)
  rw [hPost]
  exact ⟨rfl, rfl, rfl, rfl⟩
set_option maxRecDepth 20000 in
set_option maxHeartbeats 2000000 in
theorem x2_quote {l : Launch} {E : ab_E} {base : Nat} (hl : l.stackTraces = false) {ad : Nat → Nat} (f : Nat → Nat → Int) (w : Nat × Nat × Int64 × UInt64) (x y u z n : Int) (zx : -2147483648 ≤ x ∧ x < 2147483648) (zy : -2147483648 ≤ y ∧ y < 2147483648) (zu : -2147483648 ≤ u ∧ u < 2147483648) (zz : -2147483648 ≤ z ∧ z < 2147483648) (zn : -2147483648 ≤ n ∧ n < 2147483648) (h : (((0 ≤ x ∧ x ≤ 20) ∧ (0 ≤ y ∧ y ≤ 20)) ∧ ((0 ≤ u ∧ u ≤ 20) ∧ (0 ≤ z ∧ z ≤ 20)) ∧ 1 ≤ n ∧ n ≤ 6)) (h2 : x = u ∧ y = z) : ab_M l E base yX9_quote cX9_quote 6 (some .int) 9 1 6 [.ref (ad 0), ii_v x, ii_v y, ii_v u, ii_v z, ii_v n] ab_x4 ad (f, w) (ab_T "java/lang/UnsupportedOperationException" ab_x4 ad (f, w)) := by
  obtain ⟨Post, hPost⟩ : ∃ P : ab_P, P = (ab_T "java/lang/UnsupportedOperationException" ab_x4 ad (f, w)) := ⟨_, rfl⟩
  rw [← hPost]
  refine ab_of RX9 [(0, .ref (ad 0)), (1, ii_v x), (2, ii_v y), (3, ii_v u), (4, ii_v z), (5, ii_v n)] hl (by decide) rfl (Nat.le_of_ble_eq_true rfl) rfl ?_
  intro p e s m args below meth c C T0 hnm
  refine a_aload_n C dX9_quote_0 rfl ?_
  refine a_iload_n C dX9_quote_1 rfl ?_
  refine a_iload_n C dX9_quote_2 rfl ?_
  refine a_iload_n C dX9_quote_3 rfl ?_
  refine a_iload C dX9_quote_4 rfl ?_
  refine a_iload C dX9_quote_6 rfl ?_
  refine a_callV (o := 0) (As := [ii_v x, ii_v y, ii_v u, ii_v z, ii_v n]) C (x_takeWish2 hl f w x y u z n zx zy zu zz zn h h2) co_X9_takeWish in_X9 ml_X9_105 im_X9_takeWish se_X9_takeWish rfl rfl ar_X9_takeWish ⟨by decide, by decide, by decide, by decide⟩ rfl (Nat.le_of_ble_eq_true rfl) dX9_quote_8 a_nT (a_dT ?_)
  refine a_out C T0 ?_ (by decide) (by decide)
  rw [hPost]
  exact ⟨rfl, rfl, rfl, rfl⟩
set_option maxRecDepth 20000 in
set_option maxHeartbeats 2000000 in
theorem c_quoteByTrying {l : Launch} {E : ab_E} {base : Nat} (hl : l.stackTraces = false) {ad : Nat → Nat} (f : Nat → Nat → Int) (w : Nat × Nat × Int64 × UInt64) {v : Nat → Nat → Int} {TS : Nat → List Nat} (hD : wd_C f w v TS) (x y u z n : Int) (zx : -2147483648 ≤ x ∧ x < 2147483648) (zy : -2147483648 ≤ y ∧ y < 2147483648) (zu : -2147483648 ≤ u ∧ u < 2147483648) (zz : -2147483648 ≤ z ∧ z < 2147483648) (zn : -2147483648 ≤ n ∧ n < 2147483648) (hnow : 0 ≤ f 0 6 ∧ f 0 6 ≤ 90000) (hdt : 0 ≤ f 0 7 ∧ f 0 7 ≤ 200) (hwt : 0 ≤ f 0 8 ∧ f 0 8 ≤ 60) (h : (((0 ≤ x ∧ x ≤ 20) ∧ (0 ≤ y ∧ y ≤ 20)) ∧ ((0 ≤ u ∧ u ≤ 20) ∧ (0 ≤ z ∧ z ≤ 20)) ∧ 1 ≤ n ∧ n ≤ 6)) (h2 : ¬ (x = u ∧ y = z)) (hfd : 0 ≤ (pa_b (vw_f v w.2.1 x y u z n (f 0 6 + f 0 8) (pd_d x y u z * (100 + f 0 7) / 100)) (fun b => f (200 + b)) TS w.2.1 (f 0 6) w.1 (-1, f 13 4, f 13 5, 1000000, 1)).1) : ab_M l E base yX9_quoteByTrying cX9_quoteByTrying 6 (some .int) 11 0 0 [.ref (ad 0), ii_v x, ii_v y, ii_v u, ii_v z, ii_v n] ab_x4 ad (f, w) (ab_F ad w (fun ov g => ov = some (ii_v ((pa_b (vw_f v w.2.1 x y u z n (f 0 6 + f 0 8) (pd_d x y u z * (100 + f 0 7) / 100)) (fun b => f (200 + b)) TS w.2.1 (f 0 6) w.1 (-1, f 13 4, f 13 5, 1000000, 1)).2.2.2.1)) ∧ ∀ o2, o2 ≠ 10 → o2 ≠ 11 → o2 ≠ 12 → o2 ≠ 13 → o2 ≠ 14 → o2 ≠ 24 → g o2 = (wi_T f w.2.1 x y u z n) o2)) := by
  obtain ⟨Post, hPost⟩ : ∃ P : ab_P, P = (ab_F ad w (fun ov g => ov = some (ii_v ((pa_b (vw_f v w.2.1 x y u z n (f 0 6 + f 0 8) (pd_d x y u z * (100 + f 0 7) / 100)) (fun b => f (200 + b)) TS w.2.1 (f 0 6) w.1 (-1, f 13 4, f 13 5, 1000000, 1)).2.2.2.1)) ∧ ∀ o2, o2 ≠ 10 → o2 ≠ 11 → o2 ≠ 12 → o2 ≠ 13 → o2 ≠ 14 → o2 ≠ 24 → g o2 = (wi_T f w.2.1 x y u z n) o2)) := ⟨_, rfl⟩
  rw [← hPost]
  refine ab_of RX9 [(0, .ref (ad 0)), (1, ii_v x), (2, ii_v y), (3, ii_v u), (4, ii_v z), (5, ii_v n)] hl (by decide) rfl (Nat.le_of_ble_eq_true rfl) rfl ?_
  intro p e s m args below meth c C T0 hnm
  refine a_aload_n C dX9_quoteByTrying_0 rfl ?_
  refine a_iload_n C dX9_quoteByTrying_1 rfl ?_
  refine a_iload_n C dX9_quoteByTrying_2 rfl ?_
  refine a_iload_n C dX9_quoteByTrying_3 rfl ?_
  refine a_iload C dX9_quoteByTrying_4 rfl ?_
  refine a_iload C dX9_quoteByTrying_6 rfl ?_
  refine a_callV (o := 0) (As := [ii_v x, ii_v y, ii_v u, ii_v z, ii_v n]) C (c_takeWish hl f w x y u z n zx zy zu zz zn ⟨hnow.1, by omega⟩ hdt hwt h h2) co_X9_takeWish in_X9 ml_X9_105 im_X9_takeWish se_X9_takeWish rfl rfl ar_X9_takeWish ⟨by decide, by decide, by decide, by decide⟩ rfl (Nat.le_of_ble_eq_true rfl) dX9_quoteByTrying_8 (a_dV ?_) a_nV
  obtain ⟨g1, eg1⟩ : ∃ F : Nat → Nat → Int, F = (wi_T f w.2.1 x y u z n) := ⟨_, rfl⟩
  rw [← eg1]
  have hD2 : wd_C g1 w (vw_f v w.2.1 x y u z n (f 0 6 + f 0 8) (pd_d x y u z * (100 + f 0 7) / 100)) TS := by rw [eg1]; exact wi_wd hD hnow hdt hwt h
  have h0g1 : g1 0 = f 0 := by rw [eg1]; exact wi_row (by omega)
  have hr := hD.1
  have h13g1 : g1 13 = f 13 := by rw [eg1]; exact wi_row (by omega)
  refine a_aload_n C dX9_quoteByTrying_11 rfl ?_
  refine a_get (ci := 10) (i := 4) (v := .ref (ad 13)) C iw_X9 rfl (by decide) rfl fl_X9_47 rfl rfl dX9_quoteByTrying_12 ?_
  refine a_aload_n C dX9_quoteByTrying_15 rfl ?_
  refine a_get (ci := 10) (i := 0) (v := .ref (ad 1)) C iw_X9 rfl (by decide) rfl fl_X9_12 rfl rfl dX9_quoteByTrying_16 ?_
  refine a_aload_n C dX9_quoteByTrying_19 rfl ?_
  refine a_get (ci := 10) (i := 1) (v := .ref (ad 2)) C iw_X9 rfl (by decide) rfl fl_X9_19 rfl rfl dX9_quoteByTrying_20 ?_
  refine a_callVN (o := 2) (As := []) C (c_count hl g1 w hr) co_X0_count in_X0 mn_X9_108 im_X0_count se_X0_count rfl rfl ar_X0_count ⟨by decide, by decide, by decide, by decide⟩ rfl (Nat.le_of_ble_eq_true rfl) dX9_quoteByTrying_23 (a_dR ?_) a_nR
  refine a_aload_n C dX9_quoteByTrying_26 rfl ?_
  refine a_get (ci := 10) (i := 6) (v := ii_v (g1 0 6)) C iw_X9 rfl (by decide) rfl fl_X9_58 rfl rfl dX9_quoteByTrying_27 ?_
  refine a_top (w := ii_v (f 0 6)) (congrArg (fun q => ii_v q) (congrFun h0g1 6)) ?_
  refine a_callVN (o := 13) (As := [.ref (ad 1), ii_v ((w.2.1 : Nat) : Int), ii_v (f 0 6)]) C (c_tryAll hl g1 w hD2 w.2.1 (Nat.le_refl _) (f 0 6) ⟨hnow.1, by omega⟩) co_X2_tryAll in_X2 mn_X9_113 im_X2_tryAll se_X2_tryAll rfl rfl ar_X2_tryAll ⟨by decide, by decide, by decide, by decide⟩ rfl (Nat.le_of_ble_eq_true rfl) dX9_quoteByTrying_30 (a_dF ?_) a_nF
  intro vg2 g2 hvg2
  obtain ⟨rfl, hatg2, hbdg2, hfg2⟩ := hvg2
  rw [h13g1] at hatg2
  rw [pa_b_rows (B2 := fun b => f (200 + b)) (fun b hb => (by have := hD.2.1; rw [eg1]; exact wi_row (by omega) : g1 (200 + b) = f (200 + b))) _] at hatg2
  have hat3 := hatg2.1
  refine a_aload_n C dX9_quoteByTrying_33 rfl ?_
  refine a_callV (o := 0) (As := []) C (c_checkFound hl g2 w hbdg2.1 (by rw [hat3]; exact hfd)) co_X9_checkFound in_X9 ml_X9_170 im_X9_checkFound se_X9_checkFound rfl rfl ar_X9_checkFound ⟨by decide, by decide, by decide, by decide⟩ rfl (Nat.le_of_ble_eq_true rfl) dX9_quoteByTrying_34 (a_dV ?_) a_nV
  refine a_aload_n C dX9_quoteByTrying_37 rfl ?_
  refine a_get (ci := 10) (i := 4) (v := .ref (ad 13)) C iw_X9 rfl (by decide) rfl fl_X9_47 rfl rfl dX9_quoteByTrying_38 ?_
  refine a_getN (ci := 3) (i := 6) (v := ii_v (g2 13 6)) C iw_X2 rfl (by decide) rfl fn_X9_173 rfl rfl dX9_quoteByTrying_41 ?_
  refine a_top (w := ii_v ((pa_b (vw_f v w.2.1 x y u z n (f 0 6 + f 0 8) (pd_d x y u z * (100 + f 0 7) / 100)) (fun b => f (200 + b)) TS w.2.1 (f 0 6) w.1 (-1, f 13 4, f 13 5, 1000000, 1)).2.2.2.1)) (congrArg (fun q => ii_v q) hatg2.2.2.2.1) ?_
  refine a_iret C ?_ (by decide) (by decide) dX9_quoteByTrying_44
  rw [hPost]
  exact ab_F_of ⟨rfl, fun o2 h1 h2 h3 h4 h5 h6 => by rw [hfg2 o2 h1 h2 h3 h4 h5 h6, eg1]⟩
set_option maxRecDepth 20000 in
set_option maxHeartbeats 2000000 in
theorem x3_quoteByTrying {l : Launch} {E : ab_E} {base : Nat} (hl : l.stackTraces = false) {ad : Nat → Nat} (f : Nat → Nat → Int) (w : Nat × Nat × Int64 × UInt64) {v : Nat → Nat → Int} {TS : Nat → List Nat} (hD : wd_C f w v TS) (x y u z n : Int) (zx : -2147483648 ≤ x ∧ x < 2147483648) (zy : -2147483648 ≤ y ∧ y < 2147483648) (zu : -2147483648 ≤ u ∧ u < 2147483648) (zz : -2147483648 ≤ z ∧ z < 2147483648) (zn : -2147483648 ≤ n ∧ n < 2147483648) (hnow : 0 ≤ f 0 6 ∧ f 0 6 ≤ 90000) (hdt : 0 ≤ f 0 7 ∧ f 0 7 ≤ 200) (hwt : 0 ≤ f 0 8 ∧ f 0 8 ≤ 60) (h : (((0 ≤ x ∧ x ≤ 20) ∧ (0 ≤ y ∧ y ≤ 20)) ∧ ((0 ≤ u ∧ u ≤ 20) ∧ (0 ≤ z ∧ z ≤ 20)) ∧ 1 ≤ n ∧ n ≤ 6)) (h2 : ¬ (x = u ∧ y = z)) (hfd : (pa_b (vw_f v w.2.1 x y u z n (f 0 6 + f 0 8) (pd_d x y u z * (100 + f 0 7) / 100)) (fun b => f (200 + b)) TS w.2.1 (f 0 6) w.1 (-1, f 13 4, f 13 5, 1000000, 1)).1 < 0) : ab_M l E base yX9_quoteByTrying cX9_quoteByTrying 6 (some .int) 11 1 6 [.ref (ad 0), ii_v x, ii_v y, ii_v u, ii_v z, ii_v n] ab_x4 ad (f, w) (ab_FX ad w "java/util/NoSuchElementException" (fun g => ∀ o2, o2 ≠ 10 → o2 ≠ 11 → o2 ≠ 12 → o2 ≠ 13 → o2 ≠ 14 → o2 ≠ 24 → g o2 = (wi_T f w.2.1 x y u z n) o2)) := by
  obtain ⟨Post, hPost⟩ : ∃ P : ab_P, P = (ab_FX ad w "java/util/NoSuchElementException" (fun g => ∀ o2, o2 ≠ 10 → o2 ≠ 11 → o2 ≠ 12 → o2 ≠ 13 → o2 ≠ 14 → o2 ≠ 24 → g o2 = (wi_T f w.2.1 x y u z n) o2)) := ⟨_, rfl⟩
  rw [← hPost]
  refine ab_of RX9 [(0, .ref (ad 0)), (1, ii_v x), (2, ii_v y), (3, ii_v u), (4, ii_v z), (5, ii_v n)] hl (by decide) rfl (Nat.le_of_ble_eq_true rfl) rfl ?_
  intro p e s m args below meth c C T0 hnm
  refine a_aload_n C dX9_quoteByTrying_0 rfl ?_
  refine a_iload_n C dX9_quoteByTrying_1 rfl ?_
  refine a_iload_n C dX9_quoteByTrying_2 rfl ?_
  refine a_iload_n C dX9_quoteByTrying_3 rfl ?_
  refine a_iload C dX9_quoteByTrying_4 rfl ?_
  refine a_iload C dX9_quoteByTrying_6 rfl ?_
  refine a_callV (o := 0) (As := [ii_v x, ii_v y, ii_v u, ii_v z, ii_v n]) C (c_takeWish hl f w x y u z n zx zy zu zz zn ⟨hnow.1, by omega⟩ hdt hwt h h2) co_X9_takeWish in_X9 ml_X9_105 im_X9_takeWish se_X9_takeWish rfl rfl ar_X9_takeWish ⟨by decide, by decide, by decide, by decide⟩ rfl (Nat.le_of_ble_eq_true rfl) dX9_quoteByTrying_8 (a_dV ?_) a_nV
  obtain ⟨g1, eg1⟩ : ∃ F : Nat → Nat → Int, F = (wi_T f w.2.1 x y u z n) := ⟨_, rfl⟩
  rw [← eg1]
  have hD2 : wd_C g1 w (vw_f v w.2.1 x y u z n (f 0 6 + f 0 8) (pd_d x y u z * (100 + f 0 7) / 100)) TS := by rw [eg1]; exact wi_wd hD hnow hdt hwt h
  have h0g1 : g1 0 = f 0 := by rw [eg1]; exact wi_row (by omega)
  have hr := hD.1
  have h13g1 : g1 13 = f 13 := by rw [eg1]; exact wi_row (by omega)
  refine a_aload_n C dX9_quoteByTrying_11 rfl ?_
  refine a_get (ci := 10) (i := 4) (v := .ref (ad 13)) C iw_X9 rfl (by decide) rfl fl_X9_47 rfl rfl dX9_quoteByTrying_12 ?_
  refine a_aload_n C dX9_quoteByTrying_15 rfl ?_
  refine a_get (ci := 10) (i := 0) (v := .ref (ad 1)) C iw_X9 rfl (by decide) rfl fl_X9_12 rfl rfl dX9_quoteByTrying_16 ?_
  refine a_aload_n C dX9_quoteByTrying_19 rfl ?_
  refine a_get (ci := 10) (i := 1) (v := .ref (ad 2)) C iw_X9 rfl (by decide) rfl fl_X9_19 rfl rfl dX9_quoteByTrying_20 ?_
  refine a_callVN (o := 2) (As := []) C (c_count hl g1 w hr) co_X0_count in_X0 mn_X9_108 im_X0_count se_X0_count rfl rfl ar_X0_count ⟨by decide, by decide, by decide, by decide⟩ rfl (Nat.le_of_ble_eq_true rfl) dX9_quoteByTrying_23 (a_dR ?_) a_nR
  refine a_aload_n C dX9_quoteByTrying_26 rfl ?_
  refine a_get (ci := 10) (i := 6) (v := ii_v (g1 0 6)) C iw_X9 rfl (by decide) rfl fl_X9_58 rfl rfl dX9_quoteByTrying_27 ?_
  refine a_top (w := ii_v (f 0 6)) (congrArg (fun q => ii_v q) (congrFun h0g1 6)) ?_
  refine a_callVN (o := 13) (As := [.ref (ad 1), ii_v ((w.2.1 : Nat) : Int), ii_v (f 0 6)]) C (c_tryAll hl g1 w hD2 w.2.1 (Nat.le_refl _) (f 0 6) ⟨hnow.1, by omega⟩) co_X2_tryAll in_X2 mn_X9_113 im_X2_tryAll se_X2_tryAll rfl rfl ar_X2_tryAll ⟨by decide, by decide, by decide, by decide⟩ rfl (Nat.le_of_ble_eq_true rfl) dX9_quoteByTrying_30 (a_dF ?_) a_nF
  intro vg2 g2 hvg2
  obtain ⟨rfl, hatg2, hbdg2, hfg2⟩ := hvg2
  rw [h13g1] at hatg2
  rw [pa_b_rows (B2 := fun b => f (200 + b)) (fun b hb => (by have := hD.2.1; rw [eg1]; exact wi_row (by omega) : g1 (200 + b) = f (200 + b))) _] at hatg2
  have hat3 := hatg2.1
  refine a_aload_n C dX9_quoteByTrying_33 rfl ?_
  refine a_callV (o := 0) (As := []) C (x_checkFound hl g2 w hbdg2.1 (by rw [hat3]; exact hfd)) co_X9_checkFound in_X9 ml_X9_170 im_X9_checkFound se_X9_checkFound rfl rfl ar_X9_checkFound ⟨by decide, by decide, by decide, by decide⟩ rfl (Nat.le_of_ble_eq_true rfl) dX9_quoteByTrying_34 a_nT (a_dT ?_)
  refine a_out C T0 ?_ (by decide) (by decide)
  rw [hPost]
  exact ab_FX_of (fun o2 h1 h2 h3 h4 h5 h6 => by rw [hfg2 o2 h1 h2 h3 h4 h5 h6, eg1])
set_option maxRecDepth 20000 in
set_option maxHeartbeats 2000000 in
theorem x_quoteByTrying {l : Launch} {E : ab_E} {base : Nat} (hl : l.stackTraces = false) {ad : Nat → Nat} (f : Nat → Nat → Int) (w : Nat × Nat × Int64 × UInt64) (x y u z n : Int) (zx : -2147483648 ≤ x ∧ x < 2147483648) (zy : -2147483648 ≤ y ∧ y < 2147483648) (zu : -2147483648 ≤ u ∧ u < 2147483648) (zz : -2147483648 ≤ z ∧ z < 2147483648) (zn : -2147483648 ≤ n ∧ n < 2147483648) (h : ¬ (((0 ≤ x ∧ x ≤ 20) ∧ (0 ≤ y ∧ y ≤ 20)) ∧ ((0 ≤ u ∧ u ≤ 20) ∧ (0 ≤ z ∧ z ≤ 20)) ∧ 1 ≤ n ∧ n ≤ 6)) : ab_M l E base yX9_quoteByTrying cX9_quoteByTrying 6 (some .int) 9 1 6 [.ref (ad 0), ii_v x, ii_v y, ii_v u, ii_v z, ii_v n] ab_x4 ad (f, w) (ab_T "java/lang/IllegalArgumentException" ab_x4 ad (f, w)) := by
  obtain ⟨Post, hPost⟩ : ∃ P : ab_P, P = (ab_T "java/lang/IllegalArgumentException" ab_x4 ad (f, w)) := ⟨_, rfl⟩
  rw [← hPost]
  refine ab_of RX9 [(0, .ref (ad 0)), (1, ii_v x), (2, ii_v y), (3, ii_v u), (4, ii_v z), (5, ii_v n)] hl (by decide) rfl (Nat.le_of_ble_eq_true rfl) rfl ?_
  intro p e s m args below meth c C T0 hnm
  refine a_aload_n C dX9_quoteByTrying_0 rfl ?_
  refine a_iload_n C dX9_quoteByTrying_1 rfl ?_
  refine a_iload_n C dX9_quoteByTrying_2 rfl ?_
  refine a_iload_n C dX9_quoteByTrying_3 rfl ?_
  refine a_iload C dX9_quoteByTrying_4 rfl ?_
  refine a_iload C dX9_quoteByTrying_6 rfl ?_
  refine a_callV (o := 0) (As := [ii_v x, ii_v y, ii_v u, ii_v z, ii_v n]) C (x_takeWish hl f w x y u z n zx zy zu zz zn h) co_X9_takeWish in_X9 ml_X9_105 im_X9_takeWish se_X9_takeWish rfl rfl ar_X9_takeWish ⟨by decide, by decide, by decide, by decide⟩ rfl (Nat.le_of_ble_eq_true rfl) dX9_quoteByTrying_8 a_nT (a_dT ?_)
  refine a_out C T0 ?_ (by decide) (by decide)
  rw [hPost]
  exact ⟨rfl, rfl, rfl, rfl⟩
set_option maxRecDepth 20000 in
set_option maxHeartbeats 2000000 in
theorem x2_quoteByTrying {l : Launch} {E : ab_E} {base : Nat} (hl : l.stackTraces = false) {ad : Nat → Nat} (f : Nat → Nat → Int) (w : Nat × Nat × Int64 × UInt64) (x y u z n : Int) (zx : -2147483648 ≤ x ∧ x < 2147483648) (zy : -2147483648 ≤ y ∧ y < 2147483648) (zu : -2147483648 ≤ u ∧ u < 2147483648) (zz : -2147483648 ≤ z ∧ z < 2147483648) (zn : -2147483648 ≤ n ∧ n < 2147483648) (h : (((0 ≤ x ∧ x ≤ 20) ∧ (0 ≤ y ∧ y ≤ 20)) ∧ ((0 ≤ u ∧ u ≤ 20) ∧ (0 ≤ z ∧ z ≤ 20)) ∧ 1 ≤ n ∧ n ≤ 6)) (h2 : x = u ∧ y = z) : ab_M l E base yX9_quoteByTrying cX9_quoteByTrying 6 (some .int) 9 1 6 [.ref (ad 0), ii_v x, ii_v y, ii_v u, ii_v z, ii_v n] ab_x4 ad (f, w) (ab_T "java/lang/UnsupportedOperationException" ab_x4 ad (f, w)) := by
  obtain ⟨Post, hPost⟩ : ∃ P : ab_P, P = (ab_T "java/lang/UnsupportedOperationException" ab_x4 ad (f, w)) := ⟨_, rfl⟩
  rw [← hPost]
  refine ab_of RX9 [(0, .ref (ad 0)), (1, ii_v x), (2, ii_v y), (3, ii_v u), (4, ii_v z), (5, ii_v n)] hl (by decide) rfl (Nat.le_of_ble_eq_true rfl) rfl ?_
  intro p e s m args below meth c C T0 hnm
  refine a_aload_n C dX9_quoteByTrying_0 rfl ?_
  refine a_iload_n C dX9_quoteByTrying_1 rfl ?_
  refine a_iload_n C dX9_quoteByTrying_2 rfl ?_
  refine a_iload_n C dX9_quoteByTrying_3 rfl ?_
  refine a_iload C dX9_quoteByTrying_4 rfl ?_
  refine a_iload C dX9_quoteByTrying_6 rfl ?_
  refine a_callV (o := 0) (As := [ii_v x, ii_v y, ii_v u, ii_v z, ii_v n]) C (x_takeWish2 hl f w x y u z n zx zy zu zz zn h h2) co_X9_takeWish in_X9 ml_X9_105 im_X9_takeWish se_X9_takeWish rfl rfl ar_X9_takeWish ⟨by decide, by decide, by decide, by decide⟩ rfl (Nat.le_of_ble_eq_true rfl) dX9_quoteByTrying_8 a_nT (a_dT ?_)
  refine a_out C T0 ?_ (by decide) (by decide)
  rw [hPost]
  exact ⟨rfl, rfl, rfl, rfl⟩
set_option maxRecDepth 20000 in
set_option maxHeartbeats 2000000 in
theorem c_quotedBus {l : Launch} {E : ab_E} {base : Nat} (hl : l.stackTraces = false) {ad : Nat → Nat} (f : Nat → Nat → Int) (w : Nat × Nat × Int64 × UInt64) {v : Nat → Nat → Int} {TS : Nat → List Nat} (hD : wd_C f w v TS) (x y u z n : Int) (zx : -2147483648 ≤ x ∧ x < 2147483648) (zy : -2147483648 ≤ y ∧ y < 2147483648) (zu : -2147483648 ≤ u ∧ u < 2147483648) (zz : -2147483648 ≤ z ∧ z < 2147483648) (zn : -2147483648 ≤ n ∧ n < 2147483648) (hnow : 0 ≤ f 0 6 ∧ f 0 6 ≤ 90000) (hdt : 0 ≤ f 0 7 ∧ f 0 7 ≤ 200) (hwt : 0 ≤ f 0 8 ∧ f 0 8 ≤ 60) (h : (((0 ≤ x ∧ x ≤ 20) ∧ (0 ≤ y ∧ y ≤ 20)) ∧ ((0 ≤ u ∧ u ≤ 20) ∧ (0 ≤ z ∧ z ≤ 20)) ∧ 1 ≤ n ∧ n ≤ 6)) (h2 : ¬ (x = u ∧ y = z)) (hfd : 0 ≤ (pa_b (vw_f v w.2.1 x y u z n (f 0 6 + f 0 8) (pd_d x y u z * (100 + f 0 7) / 100)) (fun b => f (200 + b)) TS w.2.1 (f 0 6) w.1 (-1, f 13 4, f 13 5, 1000000, 1)).1) : ab_M l E base yX9_quotedBus cX9_quotedBus 6 (some .int) 11 0 0 [.ref (ad 0), ii_v x, ii_v y, ii_v u, ii_v z, ii_v n] ab_x4 ad (f, w) (ab_F ad w (fun ov g => ov = some (ii_v ((pa_b (vw_f v w.2.1 x y u z n (f 0 6 + f 0 8) (pd_d x y u z * (100 + f 0 7) / 100)) (fun b => f (200 + b)) TS w.2.1 (f 0 6) w.1 (-1, f 13 4, f 13 5, 1000000, 1)).1)) ∧ ∀ o2, o2 ≠ 10 → o2 ≠ 11 → o2 ≠ 12 → o2 ≠ 13 → o2 ≠ 14 → o2 ≠ 24 → g o2 = (wi_T f w.2.1 x y u z n) o2)) := by
  obtain ⟨Post, hPost⟩ : ∃ P : ab_P, P = (ab_F ad w (fun ov g => ov = some (ii_v ((pa_b (vw_f v w.2.1 x y u z n (f 0 6 + f 0 8) (pd_d x y u z * (100 + f 0 7) / 100)) (fun b => f (200 + b)) TS w.2.1 (f 0 6) w.1 (-1, f 13 4, f 13 5, 1000000, 1)).1)) ∧ ∀ o2, o2 ≠ 10 → o2 ≠ 11 → o2 ≠ 12 → o2 ≠ 13 → o2 ≠ 14 → o2 ≠ 24 → g o2 = (wi_T f w.2.1 x y u z n) o2)) := ⟨_, rfl⟩
  rw [← hPost]
  refine ab_of RX9 [(0, .ref (ad 0)), (1, ii_v x), (2, ii_v y), (3, ii_v u), (4, ii_v z), (5, ii_v n)] hl (by decide) rfl (Nat.le_of_ble_eq_true rfl) rfl ?_
  intro p e s m args below meth c C T0 hnm
  refine a_aload_n C dX9_quotedBus_0 rfl ?_
  refine a_iload_n C dX9_quotedBus_1 rfl ?_
  refine a_iload_n C dX9_quotedBus_2 rfl ?_
  refine a_iload_n C dX9_quotedBus_3 rfl ?_
  refine a_iload C dX9_quotedBus_4 rfl ?_
  refine a_iload C dX9_quotedBus_6 rfl ?_
  refine a_callV (o := 0) (As := [ii_v x, ii_v y, ii_v u, ii_v z, ii_v n]) C (c_takeWish hl f w x y u z n zx zy zu zz zn ⟨hnow.1, by omega⟩ hdt hwt h h2) co_X9_takeWish in_X9 ml_X9_105 im_X9_takeWish se_X9_takeWish rfl rfl ar_X9_takeWish ⟨by decide, by decide, by decide, by decide⟩ rfl (Nat.le_of_ble_eq_true rfl) dX9_quotedBus_8 (a_dV ?_) a_nV
  obtain ⟨g1, eg1⟩ : ∃ F : Nat → Nat → Int, F = (wi_T f w.2.1 x y u z n) := ⟨_, rfl⟩
  rw [← eg1]
  have hD2 : wd_C g1 w (vw_f v w.2.1 x y u z n (f 0 6 + f 0 8) (pd_d x y u z * (100 + f 0 7) / 100)) TS := by rw [eg1]; exact wi_wd hD hnow hdt hwt h
  have h0g1 : g1 0 = f 0 := by rw [eg1]; exact wi_row (by omega)
  have hr := hD.1
  have h13g1 : g1 13 = f 13 := by rw [eg1]; exact wi_row (by omega)
  refine a_aload_n C dX9_quotedBus_11 rfl ?_
  refine a_get (ci := 10) (i := 4) (v := .ref (ad 13)) C iw_X9 rfl (by decide) rfl fl_X9_47 rfl rfl dX9_quotedBus_12 ?_
  refine a_aload_n C dX9_quotedBus_15 rfl ?_
  refine a_get (ci := 10) (i := 0) (v := .ref (ad 1)) C iw_X9 rfl (by decide) rfl fl_X9_12 rfl rfl dX9_quotedBus_16 ?_
  refine a_aload_n C dX9_quotedBus_19 rfl ?_
  refine a_get (ci := 10) (i := 1) (v := .ref (ad 2)) C iw_X9 rfl (by decide) rfl fl_X9_19 rfl rfl dX9_quotedBus_20 ?_
  refine a_callVN (o := 2) (As := []) C (c_count hl g1 w hr) co_X0_count in_X0 mn_X9_108 im_X0_count se_X0_count rfl rfl ar_X0_count ⟨by decide, by decide, by decide, by decide⟩ rfl (Nat.le_of_ble_eq_true rfl) dX9_quotedBus_23 (a_dR ?_) a_nR
  refine a_aload_n C dX9_quotedBus_26 rfl ?_
  refine a_get (ci := 10) (i := 6) (v := ii_v (g1 0 6)) C iw_X9 rfl (by decide) rfl fl_X9_58 rfl rfl dX9_quotedBus_27 ?_
  refine a_top (w := ii_v (f 0 6)) (congrArg (fun q => ii_v q) (congrFun h0g1 6)) ?_
  refine a_callVN (o := 13) (As := [.ref (ad 1), ii_v ((w.2.1 : Nat) : Int), ii_v (f 0 6)]) C (c_tryAll hl g1 w hD2 w.2.1 (Nat.le_refl _) (f 0 6) ⟨hnow.1, by omega⟩) co_X2_tryAll in_X2 mn_X9_113 im_X2_tryAll se_X2_tryAll rfl rfl ar_X2_tryAll ⟨by decide, by decide, by decide, by decide⟩ rfl (Nat.le_of_ble_eq_true rfl) dX9_quotedBus_30 (a_dF ?_) a_nF
  intro vg2 g2 hvg2
  obtain ⟨rfl, hatg2, hbdg2, hfg2⟩ := hvg2
  rw [h13g1] at hatg2
  rw [pa_b_rows (B2 := fun b => f (200 + b)) (fun b hb => (by have := hD.2.1; rw [eg1]; exact wi_row (by omega) : g1 (200 + b) = f (200 + b))) _] at hatg2
  have hat3 := hatg2.1
  refine a_aload_n C dX9_quotedBus_33 rfl ?_
  refine a_callV (o := 0) (As := []) C (c_checkFound hl g2 w hbdg2.1 (by rw [hat3]; exact hfd)) co_X9_checkFound in_X9 ml_X9_170 im_X9_checkFound se_X9_checkFound rfl rfl ar_X9_checkFound ⟨by decide, by decide, by decide, by decide⟩ rfl (Nat.le_of_ble_eq_true rfl) dX9_quotedBus_34 (a_dV ?_) a_nV
  refine a_aload_n C dX9_quotedBus_37 rfl ?_
  refine a_get (ci := 10) (i := 4) (v := .ref (ad 13)) C iw_X9 rfl (by decide) rfl fl_X9_47 rfl rfl dX9_quotedBus_38 ?_
  refine a_getN (ci := 3) (i := 3) (v := ii_v (g2 13 3)) C iw_X2 rfl (by decide) rfl fn_X9_125 rfl rfl dX9_quotedBus_41 ?_
  refine a_top (w := ii_v ((pa_b (vw_f v w.2.1 x y u z n (f 0 6 + f 0 8) (pd_d x y u z * (100 + f 0 7) / 100)) (fun b => f (200 + b)) TS w.2.1 (f 0 6) w.1 (-1, f 13 4, f 13 5, 1000000, 1)).1)) (congrArg (fun q => ii_v q) hatg2.1) ?_
  refine a_iret C ?_ (by decide) (by decide) dX9_quotedBus_44
  rw [hPost]
  exact ab_F_of ⟨rfl, fun o2 h1 h2 h3 h4 h5 h6 => by rw [hfg2 o2 h1 h2 h3 h4 h5 h6, eg1]⟩
set_option maxRecDepth 20000 in
set_option maxHeartbeats 2000000 in
theorem x3_quotedBus {l : Launch} {E : ab_E} {base : Nat} (hl : l.stackTraces = false) {ad : Nat → Nat} (f : Nat → Nat → Int) (w : Nat × Nat × Int64 × UInt64) {v : Nat → Nat → Int} {TS : Nat → List Nat} (hD : wd_C f w v TS) (x y u z n : Int) (zx : -2147483648 ≤ x ∧ x < 2147483648) (zy : -2147483648 ≤ y ∧ y < 2147483648) (zu : -2147483648 ≤ u ∧ u < 2147483648) (zz : -2147483648 ≤ z ∧ z < 2147483648) (zn : -2147483648 ≤ n ∧ n < 2147483648) (hnow : 0 ≤ f 0 6 ∧ f 0 6 ≤ 90000) (hdt : 0 ≤ f 0 7 ∧ f 0 7 ≤ 200) (hwt : 0 ≤ f 0 8 ∧ f 0 8 ≤ 60) (h : (((0 ≤ x ∧ x ≤ 20) ∧ (0 ≤ y ∧ y ≤ 20)) ∧ ((0 ≤ u ∧ u ≤ 20) ∧ (0 ≤ z ∧ z ≤ 20)) ∧ 1 ≤ n ∧ n ≤ 6)) (h2 : ¬ (x = u ∧ y = z)) (hfd : (pa_b (vw_f v w.2.1 x y u z n (f 0 6 + f 0 8) (pd_d x y u z * (100 + f 0 7) / 100)) (fun b => f (200 + b)) TS w.2.1 (f 0 6) w.1 (-1, f 13 4, f 13 5, 1000000, 1)).1 < 0) : ab_M l E base yX9_quotedBus cX9_quotedBus 6 (some .int) 11 1 6 [.ref (ad 0), ii_v x, ii_v y, ii_v u, ii_v z, ii_v n] ab_x4 ad (f, w) (ab_FX ad w "java/util/NoSuchElementException" (fun g => ∀ o2, o2 ≠ 10 → o2 ≠ 11 → o2 ≠ 12 → o2 ≠ 13 → o2 ≠ 14 → o2 ≠ 24 → g o2 = (wi_T f w.2.1 x y u z n) o2)) := by
  obtain ⟨Post, hPost⟩ : ∃ P : ab_P, P = (ab_FX ad w "java/util/NoSuchElementException" (fun g => ∀ o2, o2 ≠ 10 → o2 ≠ 11 → o2 ≠ 12 → o2 ≠ 13 → o2 ≠ 14 → o2 ≠ 24 → g o2 = (wi_T f w.2.1 x y u z n) o2)) := ⟨_, rfl⟩
  rw [← hPost]
  refine ab_of RX9 [(0, .ref (ad 0)), (1, ii_v x), (2, ii_v y), (3, ii_v u), (4, ii_v z), (5, ii_v n)] hl (by decide) rfl (Nat.le_of_ble_eq_true rfl) rfl ?_
  intro p e s m args below meth c C T0 hnm
  refine a_aload_n C dX9_quotedBus_0 rfl ?_
  refine a_iload_n C dX9_quotedBus_1 rfl ?_
  refine a_iload_n C dX9_quotedBus_2 rfl ?_
  refine a_iload_n C dX9_quotedBus_3 rfl ?_
  refine a_iload C dX9_quotedBus_4 rfl ?_
  refine a_iload C dX9_quotedBus_6 rfl ?_
  refine a_callV (o := 0) (As := [ii_v x, ii_v y, ii_v u, ii_v z, ii_v n]) C (c_takeWish hl f w x y u z n zx zy zu zz zn ⟨hnow.1, by omega⟩ hdt hwt h h2) co_X9_takeWish in_X9 ml_X9_105 im_X9_takeWish se_X9_takeWish rfl rfl ar_X9_takeWish ⟨by decide, by decide, by decide, by decide⟩ rfl (Nat.le_of_ble_eq_true rfl) dX9_quotedBus_8 (a_dV ?_) a_nV
  obtain ⟨g1, eg1⟩ : ∃ F : Nat → Nat → Int, F = (wi_T f w.2.1 x y u z n) := ⟨_, rfl⟩
  rw [← eg1]
  have hD2 : wd_C g1 w (vw_f v w.2.1 x y u z n (f 0 6 + f 0 8) (pd_d x y u z * (100 + f 0 7) / 100)) TS := by rw [eg1]; exact wi_wd hD hnow hdt hwt h
  have h0g1 : g1 0 = f 0 := by rw [eg1]; exact wi_row (by omega)
  have hr := hD.1
  have h13g1 : g1 13 = f 13 := by rw [eg1]; exact wi_row (by omega)
  refine a_aload_n C dX9_quotedBus_11 rfl ?_
  refine a_get (ci := 10) (i := 4) (v := .ref (ad 13)) C iw_X9 rfl (by decide) rfl fl_X9_47 rfl rfl dX9_quotedBus_12 ?_
  refine a_aload_n C dX9_quotedBus_15 rfl ?_
  refine a_get (ci := 10) (i := 0) (v := .ref (ad 1)) C iw_X9 rfl (by decide) rfl fl_X9_12 rfl rfl dX9_quotedBus_16 ?_
  refine a_aload_n C dX9_quotedBus_19 rfl ?_
  refine a_get (ci := 10) (i := 1) (v := .ref (ad 2)) C iw_X9 rfl (by decide) rfl fl_X9_19 rfl rfl dX9_quotedBus_20 ?_
  refine a_callVN (o := 2) (As := []) C (c_count hl g1 w hr) co_X0_count in_X0 mn_X9_108 im_X0_count se_X0_count rfl rfl ar_X0_count ⟨by decide, by decide, by decide, by decide⟩ rfl (Nat.le_of_ble_eq_true rfl) dX9_quotedBus_23 (a_dR ?_) a_nR
  refine a_aload_n C dX9_quotedBus_26 rfl ?_
  refine a_get (ci := 10) (i := 6) (v := ii_v (g1 0 6)) C iw_X9 rfl (by decide) rfl fl_X9_58 rfl rfl dX9_quotedBus_27 ?_
  refine a_top (w := ii_v (f 0 6)) (congrArg (fun q => ii_v q) (congrFun h0g1 6)) ?_
  refine a_callVN (o := 13) (As := [.ref (ad 1), ii_v ((w.2.1 : Nat) : Int), ii_v (f 0 6)]) C (c_tryAll hl g1 w hD2 w.2.1 (Nat.le_refl _) (f 0 6) ⟨hnow.1, by omega⟩) co_X2_tryAll in_X2 mn_X9_113 im_X2_tryAll se_X2_tryAll rfl rfl ar_X2_tryAll ⟨by decide, by decide, by decide, by decide⟩ rfl (Nat.le_of_ble_eq_true rfl) dX9_quotedBus_30 (a_dF ?_) a_nF
  intro vg2 g2 hvg2
  obtain ⟨rfl, hatg2, hbdg2, hfg2⟩ := hvg2
  rw [h13g1] at hatg2
  rw [pa_b_rows (B2 := fun b => f (200 + b)) (fun b hb => (by have := hD.2.1; rw [eg1]; exact wi_row (by omega) : g1 (200 + b) = f (200 + b))) _] at hatg2
  have hat3 := hatg2.1
  refine a_aload_n C dX9_quotedBus_33 rfl ?_
  refine a_callV (o := 0) (As := []) C (x_checkFound hl g2 w hbdg2.1 (by rw [hat3]; exact hfd)) co_X9_checkFound in_X9 ml_X9_170 im_X9_checkFound se_X9_checkFound rfl rfl ar_X9_checkFound ⟨by decide, by decide, by decide, by decide⟩ rfl (Nat.le_of_ble_eq_true rfl) dX9_quotedBus_34 a_nT (a_dT ?_)
  refine a_out C T0 ?_ (by decide) (by decide)
  rw [hPost]
  exact ab_FX_of (fun o2 h1 h2 h3 h4 h5 h6 => by rw [hfg2 o2 h1 h2 h3 h4 h5 h6, eg1])
set_option maxRecDepth 20000 in
set_option maxHeartbeats 2000000 in
theorem x_quotedBus {l : Launch} {E : ab_E} {base : Nat} (hl : l.stackTraces = false) {ad : Nat → Nat} (f : Nat → Nat → Int) (w : Nat × Nat × Int64 × UInt64) (x y u z n : Int) (zx : -2147483648 ≤ x ∧ x < 2147483648) (zy : -2147483648 ≤ y ∧ y < 2147483648) (zu : -2147483648 ≤ u ∧ u < 2147483648) (zz : -2147483648 ≤ z ∧ z < 2147483648) (zn : -2147483648 ≤ n ∧ n < 2147483648) (h : ¬ (((0 ≤ x ∧ x ≤ 20) ∧ (0 ≤ y ∧ y ≤ 20)) ∧ ((0 ≤ u ∧ u ≤ 20) ∧ (0 ≤ z ∧ z ≤ 20)) ∧ 1 ≤ n ∧ n ≤ 6)) : ab_M l E base yX9_quotedBus cX9_quotedBus 6 (some .int) 9 1 6 [.ref (ad 0), ii_v x, ii_v y, ii_v u, ii_v z, ii_v n] ab_x4 ad (f, w) (ab_T "java/lang/IllegalArgumentException" ab_x4 ad (f, w)) := by
  obtain ⟨Post, hPost⟩ : ∃ P : ab_P, P = (ab_T "java/lang/IllegalArgumentException" ab_x4 ad (f, w)) := ⟨_, rfl⟩
  rw [← hPost]
  refine ab_of RX9 [(0, .ref (ad 0)), (1, ii_v x), (2, ii_v y), (3, ii_v u), (4, ii_v z), (5, ii_v n)] hl (by decide) rfl (Nat.le_of_ble_eq_true rfl) rfl ?_
  intro p e s m args below meth c C T0 hnm
  refine a_aload_n C dX9_quotedBus_0 rfl ?_
  refine a_iload_n C dX9_quotedBus_1 rfl ?_
  refine a_iload_n C dX9_quotedBus_2 rfl ?_
  refine a_iload_n C dX9_quotedBus_3 rfl ?_
  refine a_iload C dX9_quotedBus_4 rfl ?_
  refine a_iload C dX9_quotedBus_6 rfl ?_
  refine a_callV (o := 0) (As := [ii_v x, ii_v y, ii_v u, ii_v z, ii_v n]) C (x_takeWish hl f w x y u z n zx zy zu zz zn h) co_X9_takeWish in_X9 ml_X9_105 im_X9_takeWish se_X9_takeWish rfl rfl ar_X9_takeWish ⟨by decide, by decide, by decide, by decide⟩ rfl (Nat.le_of_ble_eq_true rfl) dX9_quotedBus_8 a_nT (a_dT ?_)
  refine a_out C T0 ?_ (by decide) (by decide)
  rw [hPost]
  exact ⟨rfl, rfl, rfl, rfl⟩
set_option maxRecDepth 20000 in
set_option maxHeartbeats 2000000 in
theorem x2_quotedBus {l : Launch} {E : ab_E} {base : Nat} (hl : l.stackTraces = false) {ad : Nat → Nat} (f : Nat → Nat → Int) (w : Nat × Nat × Int64 × UInt64) (x y u z n : Int) (zx : -2147483648 ≤ x ∧ x < 2147483648) (zy : -2147483648 ≤ y ∧ y < 2147483648) (zu : -2147483648 ≤ u ∧ u < 2147483648) (zz : -2147483648 ≤ z ∧ z < 2147483648) (zn : -2147483648 ≤ n ∧ n < 2147483648) (h : (((0 ≤ x ∧ x ≤ 20) ∧ (0 ≤ y ∧ y ≤ 20)) ∧ ((0 ≤ u ∧ u ≤ 20) ∧ (0 ≤ z ∧ z ≤ 20)) ∧ 1 ≤ n ∧ n ≤ 6)) (h2 : x = u ∧ y = z) : ab_M l E base yX9_quotedBus cX9_quotedBus 6 (some .int) 9 1 6 [.ref (ad 0), ii_v x, ii_v y, ii_v u, ii_v z, ii_v n] ab_x4 ad (f, w) (ab_T "java/lang/UnsupportedOperationException" ab_x4 ad (f, w)) := by
  obtain ⟨Post, hPost⟩ : ∃ P : ab_P, P = (ab_T "java/lang/UnsupportedOperationException" ab_x4 ad (f, w)) := ⟨_, rfl⟩
  rw [← hPost]
  refine ab_of RX9 [(0, .ref (ad 0)), (1, ii_v x), (2, ii_v y), (3, ii_v u), (4, ii_v z), (5, ii_v n)] hl (by decide) rfl (Nat.le_of_ble_eq_true rfl) rfl ?_
  intro p e s m args below meth c C T0 hnm
  refine a_aload_n C dX9_quotedBus_0 rfl ?_
  refine a_iload_n C dX9_quotedBus_1 rfl ?_
  refine a_iload_n C dX9_quotedBus_2 rfl ?_
  refine a_iload_n C dX9_quotedBus_3 rfl ?_
  refine a_iload C dX9_quotedBus_4 rfl ?_
  refine a_iload C dX9_quotedBus_6 rfl ?_
  refine a_callV (o := 0) (As := [ii_v x, ii_v y, ii_v u, ii_v z, ii_v n]) C (x_takeWish2 hl f w x y u z n zx zy zu zz zn h h2) co_X9_takeWish in_X9 ml_X9_105 im_X9_takeWish se_X9_takeWish rfl rfl ar_X9_takeWish ⟨by decide, by decide, by decide, by decide⟩ rfl (Nat.le_of_ble_eq_true rfl) dX9_quotedBus_8 a_nT (a_dT ?_)
  refine a_out C T0 ?_ (by decide) (by decide)
  rw [hPost]
  exact ⟨rfl, rfl, rfl, rfl⟩
set_option maxRecDepth 20000 in
set_option maxHeartbeats 2000000 in
theorem c_worstRide {l : Launch} {E : ab_E} {base : Nat} (hl : l.stackTraces = false) {ad : Nat → Nat} (f : Nat → Nat → Int) (w : Nat × Nat × Int64 × UInt64) (hr : w.2.1 ≤ 30) (hwr : ∀ k, k < w.2.1 → st_ok (f (300 + k) 8) ∧ (0 ≤ f (300 + k) 12 ∧ f (300 + k) 12 ≤ 100000) ∧ (0 ≤ f (300 + k) 11 ∧ f (300 + k) 11 ≤ 100000) ∧ 0 ≤ f (300 + k) 5 ∧ f (300 + k) 5 ≤ 1000) (h : wr_f f w.2.1 ≠ -1) : ab_M l E base yX9_worstRide cX9_worstRide 4 (some .int) 8 0 0 [.ref (ad 0)] ab_x4 ad (f, w) (ab_R (ii_v (wr_f f w.2.1)) ab_x4 ad (f, w)) := by
  obtain ⟨Post, hPost⟩ : ∃ P : ab_P, P = (ab_R (ii_v (wr_f f w.2.1)) ab_x4 ad (f, w)) := ⟨_, rfl⟩
  rw [← hPost]
  refine ab_of RX9 [(0, .ref (ad 0))] hl (by decide) rfl (Nat.le_of_ble_eq_true rfl) rfl ?_
  intro p e s m args below meth c C T0 hnm
  refine a_iconst C dX9_worstRide_0 ?_
  refine a_istore_n (L' := [(0, .ref (ad 0)), (1, ii_v (-1))]) C dX9_worstRide_1 (by decide) rfl ?_
  refine a_iconst C dX9_worstRide_2 ?_
  refine a_istore_n (L' := [(0, .ref (ad 0)), (1, ii_v (-1)), (2, ii_v 0)]) C dX9_worstRide_3 (by decide) rfl ?_
  have loop4 : ∀ (NN4 : Nat) (k : Nat), w.2.1 - k < NN4 → (k ≤ w.2.1) → ab_W p l e (ab_rm 8 0 0) s m args below meth c E base 4 (ab_Q below E base Post args s 0 0) ab_x4 ad (f, w) 0 0 4 [(0, .ref (ad 0)), (1, ii_v (wr_f f k)), (2, ii_v ((k : Nat) : Int))] [] := by
    intro NN4
    induction NN4 with
    | zero => intro k hNN; exact absurd hNN (Nat.not_lt_zero _)
    | succ NN4 ih4 =>
      intro k hNN hk
      refine a_iload_n C dX9_worstRide_4 rfl ?_
      refine a_aload_n C dX9_worstRide_5 rfl ?_
      refine a_get (ci := 10) (i := 1) (v := .ref (ad 2)) C iw_X9 rfl (by decide) rfl fl_X9_19 rfl rfl dX9_worstRide_6 ?_
      refine a_callVN (o := 2) (As := []) C (c_count hl f w hr) co_X0_count in_X0 mn_X9_108 im_X0_count se_X0_count rfl rfl ar_X0_count ⟨by decide, by decide, by decide, by decide⟩ rfl (Nat.le_of_ble_eq_true rfl) dX9_worstRide_9 (a_dR ?_) a_nR
      refine a_icmp_ge (tgt := 58) C dX9_worstRide_12 rfl (by unfold ii_B; omega) (by unfold ii_B; omega) (fun h12 => ?_) (fun h12 => ?_)
      · skip
        have hw2 := wr_b hwr k (by omega)
        have hke : k = w.2.1 := by omega
        skip
        refine a_iload_n C dX9_worstRide_58 rfl ?_
        refine a_iconst C dX9_worstRide_59 ?_
        refine a_icmp_ne (tgt := 74) C dX9_worstRide_60 rfl (by unfold ii_B; omega) (by unfold ii_B; omega) (fun h60 => ?_) (fun h60 => ?_)
        · skip
          refine a_iload_n C dX9_worstRide_74 rfl ?_
          refine a_iret C ?_ (by decide) (by decide) dX9_worstRide_75
          rw [hPost]
          exact ⟨rt_i (by rw [hke]), rfl, rfl, rfl⟩
        · skip
          exact absurd (by rw [← hke]; omega) h
      · skip
        refine a_aload_n C dX9_worstRide_15 rfl ?_
        refine a_get (ci := 10) (i := 1) (v := .ref (ad 2)) C iw_X9 rfl (by decide) rfl fl_X9_19 rfl rfl dX9_worstRide_16 ?_
        refine a_iload_n C dX9_worstRide_19 rfl ?_
        have hkl : k < w.2.1 := by omega
        refine a_callVN (o := 2) (As := [ii_v ((k : Nat) : Int)]) C (c_requestAt hl f w hr ((k : Nat) : Int) k (by omega) (Nat.le_of_lt hkl)) co_X0_requestAt in_X0 mn_X9_303 im_X0_requestAt se_X0_requestAt rfl rfl ar_X0_requestAt ⟨by decide, by decide, by decide, by decide⟩ rfl (Nat.le_of_ble_eq_true rfl) dX9_worstRide_20 (a_dR ?_) a_nR
        refine a_astore_n (L' := [(0, .ref (ad 0)), (1, ii_v (wr_f f k)), (2, ii_v ((k : Nat) : Int)), (3, .ref (ad (300 + k)))]) C dX9_worstRide_23 (by decide) rfl ?_
        obtain ⟨hs1, hs2, hs3, hs4⟩ := hwr k hkl
        have hs5 := st_b hs1
        have hw2 := wr_b hwr k (by omega)
        refine a_aload_n C dX9_worstRide_24 rfl ?_
        refine a_getN (ci := 7) (i := 8) (v := ii_v (f (300 + k) 8)) C iw_X6 rfl (by decide) rfl fn_X9_132 (ob_req (Nat.le_of_lt hkl)) rfl dX9_worstRide_25 ?_
        refine a_bipush C dX9_worstRide_28 (by decide) ?_
        refine a_icmp_ne (tgt := 52) C dX9_worstRide_30 rfl (by unfold ii_B; omega) (by unfold ii_B; omega) (fun h30 => ?_) (fun h30 => ?_)
        · skip
          rw [← wr_n (f := f) (k := k) h30]
          refine a_iinc (L' := [(0, .ref (ad 0)), (1, ii_v (wr_f f (k + 1))), (2, ii_v (((k : Nat) : Int) + 1)), (3, .ref (ad (300 + k)))]) C dX9_worstRide_52 rfl (by decide) rfl ?_
          refine a_goto (tgt := 4) C dX9_worstRide_55 rfl ?_
          refine a_pick [0, 1, 2] (L2 := [(0, .ref (ad 0)), (1, ii_v (wr_f f (k + 1))), (2, ii_v (((k : Nat) : Int) + 1))]) rfl ?_
          exact ih4 (k + 1) (by omega) (by omega)
        · skip
          refine a_iload_n C dX9_worstRide_33 rfl ?_
          refine a_aload_n C dX9_worstRide_34 rfl ?_
          refine a_getN (ci := 7) (i := 12) (v := ii_v (f (300 + k) 12)) C iw_X6 rfl (by decide) rfl fn_X9_221 (ob_req (Nat.le_of_lt hkl)) rfl dX9_worstRide_35 ?_
          refine a_aload_n C dX9_worstRide_38 rfl ?_
          refine a_getN (ci := 7) (i := 11) (v := ii_v (f (300 + k) 11)) C iw_X6 rfl (by decide) rfl fn_X9_218 (ob_req (Nat.le_of_lt hkl)) rfl dX9_worstRide_39 ?_
          refine a_isub C dX9_worstRide_42 ?_
          refine a_aload_n C dX9_worstRide_43 rfl ?_
          refine a_getN (ci := 7) (i := 5) (v := ii_v (f (300 + k) 5)) C iw_X6 rfl (by decide) rfl fn_X9_305 (ob_req (Nat.le_of_lt hkl)) rfl dX9_worstRide_44 ?_
          refine a_isub C dX9_worstRide_47 ?_
          refine a_max C ml_X9_308 dX9_worstRide_48 (by decide) (Nat.le_of_ble_eq_true rfl) (by decide) (by unfold ii_B; omega) (by unfold ii_B; omega) ?_
          refine a_istore_n (L' := [(0, .ref (ad 0)), (1, ii_v (max (wr_f f k) (((f (300 + k) 12) - (f (300 + k) 11)) - (f (300 + k) 5)))), (2, ii_v ((k : Nat) : Int)), (3, .ref (ad (300 + k)))]) C dX9_worstRide_51 (by decide) rfl ?_
          rw [← wr_y (f := f) (k := k) (by omega)]
          refine a_iinc (L' := [(0, .ref (ad 0)), (1, ii_v (wr_f f (k + 1))), (2, ii_v (((k : Nat) : Int) + 1)), (3, .ref (ad (300 + k)))]) C dX9_worstRide_52 rfl (by decide) rfl ?_
          refine a_goto (tgt := 4) C dX9_worstRide_55 rfl ?_
          refine a_pick [0, 1, 2] (L2 := [(0, .ref (ad 0)), (1, ii_v (wr_f f (k + 1))), (2, ii_v (((k : Nat) : Int) + 1))]) rfl ?_
          exact ih4 (k + 1) (by omega) (by omega)
  exact loop4 (_ + 1) 0 (Nat.lt_succ_self _) (Nat.zero_le _)
set_option maxRecDepth 20000 in
set_option maxHeartbeats 2000000 in
theorem x_worstRide {l : Launch} {E : ab_E} {base : Nat} (hl : l.stackTraces = false) {ad : Nat → Nat} (f : Nat → Nat → Int) (w : Nat × Nat × Int64 × UInt64) (hr : w.2.1 ≤ 30) (hwr : ∀ k, k < w.2.1 → st_ok (f (300 + k) 8) ∧ (0 ≤ f (300 + k) 12 ∧ f (300 + k) 12 ≤ 100000) ∧ (0 ≤ f (300 + k) 11 ∧ f (300 + k) 11 ≤ 100000) ∧ 0 ≤ f (300 + k) 5 ∧ f (300 + k) 5 ≤ 1000) (h : wr_f f w.2.1 = -1) : ab_M l E base yX9_worstRide cX9_worstRide 4 (some .int) 8 1 6 [.ref (ad 0)] ab_x4 ad (f, w) (ab_T "java/util/NoSuchElementException" ab_x4 ad (f, w)) := by
  obtain ⟨Post, hPost⟩ : ∃ P : ab_P, P = (ab_T "java/util/NoSuchElementException" ab_x4 ad (f, w)) := ⟨_, rfl⟩
  rw [← hPost]
  refine ab_of RX9 [(0, .ref (ad 0))] hl (by decide) rfl (Nat.le_of_ble_eq_true rfl) rfl ?_
  intro p e s m args below meth c C T0 hnm
  refine a_iconst C dX9_worstRide_0 ?_
  refine a_istore_n (L' := [(0, .ref (ad 0)), (1, ii_v (-1))]) C dX9_worstRide_1 (by decide) rfl ?_
  refine a_iconst C dX9_worstRide_2 ?_
  refine a_istore_n (L' := [(0, .ref (ad 0)), (1, ii_v (-1)), (2, ii_v 0)]) C dX9_worstRide_3 (by decide) rfl ?_
  have loop4 : ∀ (NN4 : Nat) (k : Nat), w.2.1 - k < NN4 → (k ≤ w.2.1) → ab_W p l e (ab_rm 8 1 6) s m args below meth c E base 4 (ab_Q below E base Post args s 1 6) ab_x4 ad (f, w) 0 0 4 [(0, .ref (ad 0)), (1, ii_v (wr_f f k)), (2, ii_v ((k : Nat) : Int))] [] := by
    intro NN4
    induction NN4 with
    | zero => intro k hNN; exact absurd hNN (Nat.not_lt_zero _)
    | succ NN4 ih4 =>
      intro k hNN hk
      refine a_iload_n C dX9_worstRide_4 rfl ?_
      refine a_aload_n C dX9_worstRide_5 rfl ?_
      refine a_get (ci := 10) (i := 1) (v := .ref (ad 2)) C iw_X9 rfl (by decide) rfl fl_X9_19 rfl rfl dX9_worstRide_6 ?_
      refine a_callVN (o := 2) (As := []) C (c_count hl f w hr) co_X0_count in_X0 mn_X9_108 im_X0_count se_X0_count rfl rfl ar_X0_count ⟨by decide, by decide, by decide, by decide⟩ rfl (Nat.le_of_ble_eq_true rfl) dX9_worstRide_9 (a_dR ?_) a_nR
      refine a_icmp_ge (tgt := 58) C dX9_worstRide_12 rfl (by unfold ii_B; omega) (by unfold ii_B; omega) (fun h12 => ?_) (fun h12 => ?_)
      · skip
        have hw2 := wr_b hwr k (by omega)
        have hke : k = w.2.1 := by omega
        skip
        refine a_iload_n C dX9_worstRide_58 rfl ?_
        refine a_iconst C dX9_worstRide_59 ?_
        refine a_icmp_ne (tgt := 74) C dX9_worstRide_60 rfl (by unfold ii_B; omega) (by unfold ii_B; omega) (fun h60 => ?_) (fun h60 => ?_)
        · skip
          exact absurd (by rw [hke]; exact h) h60
        · skip
          refine a_throwN (is := 314) (text := "nobody was dropped") C T0 (by decide) dX9_worstRide_63 dX9_worstRide_66 dX9_worstRide_67 dX9_worstRide_70 dX9_worstRide_73 ?_ ⟨by decide, by decide, by decide⟩ (Nat.le_of_ble_eq_true rfl)
          rw [hPost]
          exact ⟨rfl, rfl, rfl, rfl⟩
      · skip
        refine a_aload_n C dX9_worstRide_15 rfl ?_
        refine a_get (ci := 10) (i := 1) (v := .ref (ad 2)) C iw_X9 rfl (by decide) rfl fl_X9_19 rfl rfl dX9_worstRide_16 ?_
        refine a_iload_n C dX9_worstRide_19 rfl ?_
        have hkl : k < w.2.1 := by omega
        refine a_callVN (o := 2) (As := [ii_v ((k : Nat) : Int)]) C (c_requestAt hl f w hr ((k : Nat) : Int) k (by omega) (Nat.le_of_lt hkl)) co_X0_requestAt in_X0 mn_X9_303 im_X0_requestAt se_X0_requestAt rfl rfl ar_X0_requestAt ⟨by decide, by decide, by decide, by decide⟩ rfl (Nat.le_of_ble_eq_true rfl) dX9_worstRide_20 (a_dR ?_) a_nR
        refine a_astore_n (L' := [(0, .ref (ad 0)), (1, ii_v (wr_f f k)), (2, ii_v ((k : Nat) : Int)), (3, .ref (ad (300 + k)))]) C dX9_worstRide_23 (by decide) rfl ?_
        obtain ⟨hs1, hs2, hs3, hs4⟩ := hwr k hkl
        have hs5 := st_b hs1
        have hw2 := wr_b hwr k (by omega)
        refine a_aload_n C dX9_worstRide_24 rfl ?_
        refine a_getN (ci := 7) (i := 8) (v := ii_v (f (300 + k) 8)) C iw_X6 rfl (by decide) rfl fn_X9_132 (ob_req (Nat.le_of_lt hkl)) rfl dX9_worstRide_25 ?_
        refine a_bipush C dX9_worstRide_28 (by decide) ?_
        refine a_icmp_ne (tgt := 52) C dX9_worstRide_30 rfl (by unfold ii_B; omega) (by unfold ii_B; omega) (fun h30 => ?_) (fun h30 => ?_)
        · skip
          rw [← wr_n (f := f) (k := k) h30]
          refine a_iinc (L' := [(0, .ref (ad 0)), (1, ii_v (wr_f f (k + 1))), (2, ii_v (((k : Nat) : Int) + 1)), (3, .ref (ad (300 + k)))]) C dX9_worstRide_52 rfl (by decide) rfl ?_
          refine a_goto (tgt := 4) C dX9_worstRide_55 rfl ?_
          refine a_pick [0, 1, 2] (L2 := [(0, .ref (ad 0)), (1, ii_v (wr_f f (k + 1))), (2, ii_v (((k : Nat) : Int) + 1))]) rfl ?_
          exact ih4 (k + 1) (by omega) (by omega)
        · skip
          refine a_iload_n C dX9_worstRide_33 rfl ?_
          refine a_aload_n C dX9_worstRide_34 rfl ?_
          refine a_getN (ci := 7) (i := 12) (v := ii_v (f (300 + k) 12)) C iw_X6 rfl (by decide) rfl fn_X9_221 (ob_req (Nat.le_of_lt hkl)) rfl dX9_worstRide_35 ?_
          refine a_aload_n C dX9_worstRide_38 rfl ?_
          refine a_getN (ci := 7) (i := 11) (v := ii_v (f (300 + k) 11)) C iw_X6 rfl (by decide) rfl fn_X9_218 (ob_req (Nat.le_of_lt hkl)) rfl dX9_worstRide_39 ?_
          refine a_isub C dX9_worstRide_42 ?_
          refine a_aload_n C dX9_worstRide_43 rfl ?_
          refine a_getN (ci := 7) (i := 5) (v := ii_v (f (300 + k) 5)) C iw_X6 rfl (by decide) rfl fn_X9_305 (ob_req (Nat.le_of_lt hkl)) rfl dX9_worstRide_44 ?_
          refine a_isub C dX9_worstRide_47 ?_
          refine a_max C ml_X9_308 dX9_worstRide_48 (by decide) (Nat.le_of_ble_eq_true rfl) (by decide) (by unfold ii_B; omega) (by unfold ii_B; omega) ?_
          refine a_istore_n (L' := [(0, .ref (ad 0)), (1, ii_v (max (wr_f f k) (((f (300 + k) 12) - (f (300 + k) 11)) - (f (300 + k) 5)))), (2, ii_v ((k : Nat) : Int)), (3, .ref (ad (300 + k)))]) C dX9_worstRide_51 (by decide) rfl ?_
          rw [← wr_y (f := f) (k := k) (by omega)]
          refine a_iinc (L' := [(0, .ref (ad 0)), (1, ii_v (wr_f f (k + 1))), (2, ii_v (((k : Nat) : Int) + 1)), (3, .ref (ad (300 + k)))]) C dX9_worstRide_52 rfl (by decide) rfl ?_
          refine a_goto (tgt := 4) C dX9_worstRide_55 rfl ?_
          refine a_pick [0, 1, 2] (L2 := [(0, .ref (ad 0)), (1, ii_v (wr_f f (k + 1))), (2, ii_v (((k : Nat) : Int) + 1))]) rfl ?_
          exact ih4 (k + 1) (by omega) (by omega)
  exact loop4 (_ + 1) 0 (Nat.lt_succ_self _) (Nat.zero_le _)
