/-! Walk: along a tour stop by stop. -/
def wk_B (f : Nat → Nat → Int) : Prop := (0 ≤ f 11 2 ∧ f 11 2 ≤ 20) ∧ (0 ≤ f 11 3 ∧ f 11 3 ≤ 20) ∧ (0 ≤ f 11 4 ∧ f 11 4 ≤ 400) ∧ (-1100 ≤ f 11 5 ∧ f 11 5 ≤ 1100)
/-- whether the stop q at the place k can be made at the time u, n riders on board ahead of it, the stops ahead made at the times tm -/
def wk_ok (v : Nat → Nat → Int) (S : List Nat) (cap : Int) (k q : Nat) (u n : Int) (tm : Nat → Int) : Bool :=
  if q % 2 = 0 then decide (n + v 2 (q / 2) ≤ cap) && decide (u ≤ v 3 (q / 2))
  else !(decide (2 * (q / 2) ∈ S) && decide (k < S.idxOf (2 * (q / 2)))) && decide (u - (if 2 * (q / 2) ∈ S then tm (S.idxOf (2 * (q / 2))) else v 5 (q / 2)) ≤ v 4 (q / 2))
theorem wk_ret {b : Bool} (h : b = true) : some (ii_v 1) = some (ii_v (if b = true then 1 else 0)) := by rw [if_pos h]
theorem wk_ret0 {b : Bool} (h : b = false) : some (ii_v 0) = some (ii_v (if b = true then 1 else 0)) := by rw [if_neg (by rw [h]; decide)]
section WK
variable {v : Nat → Nat → Int} {S : List Nat} {cap u n : Int} {k q : Nat} {tm : Nat → Int}
theorem wk_y1 (h : q % 2 = 0) (h1 : n + v 2 (q / 2) ≤ cap) (h2 : u ≤ v 3 (q / 2)) : wk_ok v S cap k q u n tm = true := by
  unfold wk_ok
  rw [if_pos h, decide_eq_true h1, decide_eq_true h2]
  rfl
theorem wk_n1 (h : q % 2 = 0) (h1 : cap < n + v 2 (q / 2) ∨ v 3 (q / 2) < u) : wk_ok v S cap k q u n tm = false := by
  unfold wk_ok
  rw [if_pos h]
  rcases h1 with h1 | h1
  · rw [decide_eq_false (by omega), Bool.false_and]
  · rw [decide_eq_false (p := u ≤ v 3 (q / 2)) (by omega), Bool.and_false]
theorem wk_n2 (h : ¬ q % 2 = 0) (h1 : 2 * (q / 2) ∈ S ∧ k < S.idxOf (2 * (q / 2))) : wk_ok v S cap k q u n tm = false := by
  unfold wk_ok
  rw [if_neg h, decide_eq_true h1.1, decide_eq_true h1.2]
  rfl
theorem wk_y3 (h : ¬ q % 2 = 0) (h1 : ¬ (2 * (q / 2) ∈ S ∧ k < S.idxOf (2 * (q / 2)))) (hm : 2 * (q / 2) ∈ S) (h2 : u - tm (S.idxOf (2 * (q / 2))) ≤ v 4 (q / 2)) : wk_ok v S cap k q u n tm = true := by
  unfold wk_ok
  rw [if_neg h, if_pos hm, decide_eq_true hm, decide_eq_false (p := k < S.idxOf (2 * (q / 2))) (fun z => h1 ⟨hm, z⟩), decide_eq_true h2]
  rfl
theorem wk_n3 (h : ¬ q % 2 = 0) (hm : 2 * (q / 2) ∈ S) (h2 : v 4 (q / 2) < u - tm (S.idxOf (2 * (q / 2)))) : wk_ok v S cap k q u n tm = false := by
  unfold wk_ok
  rw [if_neg h, if_pos hm, decide_eq_false (p := u - tm (S.idxOf (2 * (q / 2))) ≤ v 4 (q / 2)) (by omega), Bool.and_false]
theorem wk_y4 (h : ¬ q % 2 = 0) (h1 : ¬ (2 * (q / 2) ∈ S ∧ k < S.idxOf (2 * (q / 2)))) (hm : 2 * (q / 2) ∉ S) (h2 : u - v 5 (q / 2) ≤ v 4 (q / 2)) : wk_ok v S cap k q u n tm = true := by
  unfold wk_ok
  rw [if_neg h, if_neg hm, decide_eq_false hm, decide_eq_true h2]
  rfl
theorem wk_n4 (h : ¬ q % 2 = 0) (hm : 2 * (q / 2) ∉ S) (h2 : v 4 (q / 2) < u - v 5 (q / 2)) : wk_ok v S cap k q u n tm = false := by
  unfold wk_ok
  rw [if_neg h, if_neg hm, decide_eq_false (p := u - v 5 (q / 2) ≤ v 4 (q / 2)) (by omega), Bool.and_false]
theorem wk_far {m : Nat} (h : ¬ (if m ∈ S then (S.idxOf m : Int) else -1) ≤ (k : Int)) : m ∈ S ∧ k < S.idxOf m := by
  by_cases hm : m ∈ S
  · rw [if_pos hm] at h
    exact ⟨hm, by omega⟩
  · rw [if_neg hm] at h
    omega
end WK
/-- the walk: the place at which it gives up, or -1; how far the way is, with the way back to the depot, where it ends -/
def wk_f (v : Nat → Nat → Int) (S0 : List Nat) (cap chg bound dx dy now : Int) : List Nat → Nat → Int → Int → Int → Int → List Int → Int × Int
  | [], _, x, y, a, _, _ => (-1, a + pd_d x y dx dy)
  | q :: S, k, x, y, a, n, T =>
    if bound ≤ a + pd_d x y (v 0 q) (v 1 q) + pd_d (v 0 q) (v 1 q) dx dy ∨ chg < a + pd_d x y (v 0 q) (v 1 q) + pd_d (v 0 q) (v 1 q) dx dy ∨ ¬ wk_ok v S0 cap k q (now + (a + pd_d x y (v 0 q) (v 1 q))) n (fun j => T.getD j 0) = true then ((k : Int), a + pd_d x y (v 0 q) (v 1 q) + pd_d (v 0 q) (v 1 q) dx dy)
    else wk_f v S0 cap chg bound dx dy now S (k + 1) (v 0 q) (v 1 q) (a + pd_d x y (v 0 q) (v 1 q)) (n + pl_mv v q) (T ++ [now + (a + pd_d x y (v 0 q) (v 1 q))])
section WF
variable {v : Nat → Nat → Int} {S0 S : List Nat} {cap chg bound dx dy now x y a n : Int} {k q : Nat} {T : List Int}
theorem wk_go (h1 : ¬ bound ≤ a + pd_d x y (v 0 q) (v 1 q) + pd_d (v 0 q) (v 1 q) dx dy) (h2 : ¬ chg < a + pd_d x y (v 0 q) (v 1 q) + pd_d (v 0 q) (v 1 q) dx dy) (h3 : wk_ok v S0 cap k q (now + (a + pd_d x y (v 0 q) (v 1 q))) n (fun j => T.getD j 0) = true) :
    wk_f v S0 cap chg bound dx dy now (q :: S) k x y a n T = wk_f v S0 cap chg bound dx dy now S (k + 1) (v 0 q) (v 1 q) (a + pd_d x y (v 0 q) (v 1 q)) (n + pl_mv v q) (T ++ [now + (a + pd_d x y (v 0 q) (v 1 q))]) := by
  rw [wk_f, if_neg (fun h => h.elim h1 (fun h => h.elim h2 (fun h => h h3)))]
theorem wk_no (h : bound ≤ a + pd_d x y (v 0 q) (v 1 q) + pd_d (v 0 q) (v 1 q) dx dy ∨ chg < a + pd_d x y (v 0 q) (v 1 q) + pd_d (v 0 q) (v 1 q) dx dy ∨ ¬ wk_ok v S0 cap k q (now + (a + pd_d x y (v 0 q) (v 1 q))) n (fun j => T.getD j 0) = true) :
    wk_f v S0 cap chg bound dx dy now (q :: S) k x y a n T = ((k : Int), a + pd_d x y (v 0 q) (v 1 q) + pd_d (v 0 q) (v 1 q) dx dy) := by
  rw [wk_f, if_pos h]
theorem wk_cong {u : Int} {tm tm2 : Nat → Int} (h : ∀ j, j < k → tm j = tm2 j) (hp : q % 2 ≠ 0 → S.idxOf (2 * (q / 2)) ≠ k) : wk_ok v S cap k q u n tm = wk_ok v S cap k q u n tm2 := by
  unfold wk_ok
  by_cases h0 : q % 2 = 0
  · rw [if_pos h0, if_pos h0]
  · rw [if_neg h0, if_neg h0]
    by_cases hm : 2 * (q / 2) ∈ S
    · rw [if_pos hm, if_pos hm]
      by_cases hk : k < S.idxOf (2 * (q / 2))
      · rw [decide_eq_true hm, decide_eq_true hk]
        rfl
      · have := hp h0
        rw [h _ (by omega)]
    · rw [if_neg hm, if_neg hm]
end WF
set_option maxRecDepth 20000 in
set_option maxHeartbeats 2000000 in
theorem c_goTo {l : Launch} {E : ab_E} {base : Nat} (hl : l.stackTraces = false) {ad : Nat → Nat} (f : Nat → Nat → Int) (w : Nat × Nat × Int64 × UInt64) (hr : w.2.1 ≤ 30) {v : Nat → Nat → Int} (hv : pe_C f v w.2.1) {o : Nat} (ho : ab_ob 4 w.1 w.2.1 o = some (2, [none, none, none, none, none, some (o + 10), none, none, none, none, none, none, none])) (hB : pb_B f o) (q : Nat) (hq : q / 2 ≤ w.2.1) (hW : wk_B f)  : ab_M l E base yX8_goTo cX8_goTo 3 none 7 0 0 [.ref (ad 11), .ref (ad o), ii_v ((q : Nat) : Int)] ab_x4 ad (f, w) (ab_F ad w (fun r g => r = none ∧ g 11 2 = v 0 q ∧ g 11 3 = v 1 q ∧ g 11 4 = f 11 4 + pd_d (f 11 2) (f 11 3) (v 0 q) (v 1 q) ∧ g 11 5 = f 11 5 ∧ g 11 6 = f 11 4 + pd_d (f 11 2) (f 11 3) (v 0 q) (v 1 q) + pd_d (v 0 q) (v 1 q) (f o 3) (f o 4) ∧ ∀ o2, o2 ≠ 11 → g o2 = f o2)) := by
  obtain ⟨Post, hPost⟩ : ∃ P : ab_P, P = (ab_F ad w (fun r g => r = none ∧ g 11 2 = v 0 q ∧ g 11 3 = v 1 q ∧ g 11 4 = f 11 4 + pd_d (f 11 2) (f 11 3) (v 0 q) (v 1 q) ∧ g 11 5 = f 11 5 ∧ g 11 6 = f 11 4 + pd_d (f 11 2) (f 11 3) (v 0 q) (v 1 q) + pd_d (v 0 q) (v 1 q) (f o 3) (f o 4) ∧ ∀ o2, o2 ≠ 11 → g o2 = f o2)) := ⟨_, rfl⟩
  rw [← hPost]
  refine ab_of RX8 [(0, .ref (ad 11)), (1, .ref (ad o)), (2, ii_v ((q : Nat) : Int))] hl (by decide) rfl (Nat.le_of_ble_eq_true rfl) rfl ?_
  intro p e s m args below meth c C T0 hnm
  obtain ⟨hB1, hB3, hB4, hB6, hB7, hB8, hB9⟩ := id hB
  have hoc := ob_bus_c ho
  obtain ⟨hW2, hW3, hW4, hW5⟩ := id hW
  have qv := hv.1 q hq
  have hd := pd_b (x := f 11 2) (y := f 11 3) (u := v 0 q) (v := v 1 q) (by omega) (by omega) (by omega) (by omega)
  refine a_aload_n C dX8_goTo_0 rfl ?_
  refine a_dup C dX8_goTo_1 rfl ?_
  refine a_get (ci := 9) (i := 4) (v := ii_v (f 11 4)) C iw_X8 rfl (by decide) rfl fl_X8_30 rfl rfl dX8_goTo_2 ?_
  refine a_aload_n C dX8_goTo_5 rfl ?_
  refine a_get (ci := 9) (i := 0) (v := .ref (ad 2)) C iw_X8 rfl (by decide) rfl fl_X8_15 rfl rfl dX8_goTo_6 ?_
  refine a_iload_n C dX8_goTo_9 rfl ?_
  refine a_aload_n C dX8_goTo_10 rfl ?_
  refine a_get (ci := 9) (i := 2) (v := ii_v (f 11 2)) C iw_X8 rfl (by decide) rfl fl_X8_25 rfl rfl dX8_goTo_11 ?_
  refine a_aload_n C dX8_goTo_14 rfl ?_
  refine a_get (ci := 9) (i := 3) (v := ii_v (f 11 3)) C iw_X8 rfl (by decide) rfl fl_X8_29 rfl rfl dX8_goTo_15 ?_
  refine a_callVN (o := 2) (As := [ii_v ((q : Nat) : Int), ii_v (f 11 2), ii_v (f 11 3)]) C (c_wayTo hl f w hr hv q (by omega) (f 11 2) (f 11 3) (by omega) (by omega)) co_X0_wayTo in_X0 mn_X8_72 im_X0_wayTo se_X0_wayTo rfl rfl ar_X0_wayTo ⟨by decide, by decide, by decide, by decide⟩ rfl (Nat.le_of_ble_eq_true rfl) dX8_goTo_18 (a_dR ?_) a_nR
  refine a_iadd C dX8_goTo_21 ?_
  refine a_put (ci := 9) (i := 4) C iw_X8 rfl (by decide) rfl tyX8 tyX8_ok nmX8 rfl rfl fl_X8_30 rfl rfl rfl rfl dX8_goTo_22 ?_
  obtain ⟨g1, eg1⟩ : ∃ F : Nat → Nat → Int, F = ii_up f 11 4 ((f 11 4) + (pd_d (f 11 2) (f 11 3) (v 0 q) (v 1 q))) := ⟨_, rfl⟩
  rw [← eg1]
  have hvg1 : pe_C g1 v w.2.1 := pe_same hv (fun o2 h => by rw [eg1]; exact ii_up_row _ _ (by omega))
  refine a_aload_n C dX8_goTo_25 rfl ?_
  refine a_aload_n C dX8_goTo_26 rfl ?_
  refine a_get (ci := 9) (i := 0) (v := .ref (ad 2)) C iw_X8 rfl (by decide) rfl fl_X8_15 rfl rfl dX8_goTo_27 ?_
  refine a_iload_n C dX8_goTo_30 rfl ?_
  refine a_callVN (o := 2) (As := [ii_v ((q : Nat) : Int)]) C (c_xOf hl g1 w hr hvg1 q (by omega)) co_X0_xOf in_X0 mn_X8_78 im_X0_xOf se_X0_xOf rfl rfl ar_X0_xOf ⟨by decide, by decide, by decide, by decide⟩ rfl (Nat.le_of_ble_eq_true rfl) dX8_goTo_31 (a_dR ?_) a_nR
  refine a_put (ci := 9) (i := 2) C iw_X8 rfl (by decide) rfl tyX8 tyX8_ok nmX8 rfl rfl fl_X8_25 rfl rfl rfl rfl dX8_goTo_34 ?_
  obtain ⟨g2, eg2⟩ : ∃ F : Nat → Nat → Int, F = ii_up g1 11 2 (v 0 q) := ⟨_, rfl⟩
  rw [← eg2]
  have hvg2 : pe_C g2 v w.2.1 := pe_same hvg1 (fun o2 h => by rw [eg2]; exact ii_up_row _ _ (by omega))
  refine a_aload_n C dX8_goTo_37 rfl ?_
  refine a_aload_n C dX8_goTo_38 rfl ?_
  refine a_get (ci := 9) (i := 0) (v := .ref (ad 2)) C iw_X8 rfl (by decide) rfl fl_X8_15 rfl rfl dX8_goTo_39 ?_
  refine a_iload_n C dX8_goTo_42 rfl ?_
  refine a_callVN (o := 2) (As := [ii_v ((q : Nat) : Int)]) C (c_yOf hl g2 w hr hvg2 q (by omega)) co_X0_yOf in_X0 mn_X8_81 im_X0_yOf se_X0_yOf rfl rfl ar_X0_yOf ⟨by decide, by decide, by decide, by decide⟩ rfl (Nat.le_of_ble_eq_true rfl) dX8_goTo_43 (a_dR ?_) a_nR
  refine a_put (ci := 9) (i := 3) C iw_X8 rfl (by decide) rfl tyX8 tyX8_ok nmX8 rfl rfl fl_X8_29 rfl rfl rfl rfl dX8_goTo_46 ?_
  obtain ⟨g3, eg3⟩ : ∃ F : Nat → Nat → Int, F = ii_up g2 11 3 (v 1 q) := ⟨_, rfl⟩
  rw [← eg3]
  have hvg3 : pe_C g3 v w.2.1 := pe_same hvg2 (fun o2 h => by rw [eg3]; exact ii_up_row _ _ (by omega))
  refine a_aload_n C dX8_goTo_49 rfl ?_
  refine a_aload_n C dX8_goTo_50 rfl ?_
  refine a_get (ci := 9) (i := 4) (v := ii_v (g3 11 4)) C iw_X8 rfl (by decide) rfl fl_X8_30 rfl rfl dX8_goTo_51 ?_
  refine a_top (w := ii_v ((f 11 4) + (pd_d (f 11 2) (f 11 3) (v 0 q) (v 1 q)))) (congrArg (fun q => ii_v q) (show g3 11 4 = ((f 11 4) + (pd_d (f 11 2) (f 11 3) (v 0 q) (v 1 q))) by rw [eg3, ii_up_k _ _ (by first | decide | omega), eg2, ii_up_k _ _ (by first | decide | omega), eg1, ii_up_s])) ?_
  refine a_aload_n C dX8_goTo_54 rfl ?_
  refine a_get (ci := 9) (i := 2) (v := ii_v (g3 11 2)) C iw_X8 rfl (by decide) rfl fl_X8_25 rfl rfl dX8_goTo_55 ?_
  refine a_top (w := ii_v (v 0 q)) (congrArg (fun q => ii_v q) (show g3 11 2 = (v 0 q) by rw [eg3, ii_up_k _ _ (by first | decide | omega), eg2, ii_up_s])) ?_
  refine a_aload_n C dX8_goTo_58 rfl ?_
  refine a_get (ci := 9) (i := 3) (v := ii_v (g3 11 3)) C iw_X8 rfl (by decide) rfl fl_X8_29 rfl rfl dX8_goTo_59 ?_
  refine a_top (w := ii_v (v 1 q)) (congrArg (fun q => ii_v q) (show g3 11 3 = (v 1 q) by rw [eg3, ii_up_s])) ?_
  refine a_aload_n C dX8_goTo_62 rfl ?_
  refine a_getN (ci := 2) (i := 3) (v := ii_v (g3 o 3)) C iw_X1 rfl (by decide) rfl fn_X8_39 ho rfl dX8_goTo_63 ?_
  refine a_top (w := ii_v (f o 3)) (congrArg (fun q => ii_v q) (show g3 o 3 = (f o 3) by rw [eg3, ii_up_o _ _ _ (by omega), eg2, ii_up_o _ _ _ (by omega), eg1, ii_up_o _ _ _ (by omega)])) ?_
  refine a_aload_n C dX8_goTo_66 rfl ?_
  refine a_getN (ci := 2) (i := 4) (v := ii_v (g3 o 4)) C iw_X1 rfl (by decide) rfl fn_X8_42 ho rfl dX8_goTo_67 ?_
  refine a_top (w := ii_v (f o 4)) (congrArg (fun q => ii_v q) (show g3 o 4 = (f o 4) by rw [eg3, ii_up_o _ _ _ (by omega), eg2, ii_up_o _ _ _ (by omega), eg1, ii_up_o _ _ _ (by omega)])) ?_
  refine a_callSN (As := [ii_v (v 0 q), ii_v (v 1 q), ii_v (f o 3), ii_v (f o 4)]) C (c_distance hl g3 w (v 0 q) (v 1 q) (f o 3) (f o 4) (by omega) (by omega) (by omega) (by omega)) co_X9_distance in_X9 mn_X8_45 sc_X9_distance ar_X9_distance ⟨by decide, by decide, by decide, by decide⟩ rfl (Nat.le_of_ble_eq_true rfl) dX8_goTo_70 (a_dR ?_) a_nR
  refine a_iadd C dX8_goTo_73 ?_
  refine a_put (ci := 9) (i := 6) C iw_X8 rfl (by decide) rfl tyX8 tyX8_ok nmX8 rfl rfl fl_X8_49 rfl rfl rfl rfl dX8_goTo_74 ?_
  obtain ⟨g4, eg4⟩ : ∃ F : Nat → Nat → Int, F = ii_up g3 11 6 (((f 11 4) + (pd_d (f 11 2) (f 11 3) (v 0 q) (v 1 q))) + (pd_d (v 0 q) (v 1 q) (f o 3) (f o 4))) := ⟨_, rfl⟩
  rw [← eg4]
  have hvg4 : pe_C g4 v w.2.1 := pe_same hvg3 (fun o2 h => by rw [eg4]; exact ii_up_row _ _ (by omega))
  refine a_vret C ?_ (by decide) (by decide) dX8_goTo_77
  rw [hPost]
  refine ab_F_of ⟨rfl, (by rw [eg4, ii_up_k _ _ (by first | decide | omega), eg3, ii_up_k _ _ (by first | decide | omega), eg2, ii_up_s]), (by rw [eg4, ii_up_k _ _ (by first | decide | omega), eg3, ii_up_s]), (by rw [eg4, ii_up_k _ _ (by first | decide | omega), eg3, ii_up_k _ _ (by first | decide | omega), eg2, ii_up_k _ _ (by first | decide | omega), eg1, ii_up_s]), (by rw [eg4, ii_up_k _ _ (by first | decide | omega), eg3, ii_up_k _ _ (by first | decide | omega), eg2, ii_up_k _ _ (by first | decide | omega), eg1, ii_up_k _ _ (by first | decide | omega)]), (by rw [eg4, ii_up_s]), fun o2 h => ?_⟩
  rw [eg4, ii_up_row _ _ h, eg3, ii_up_row _ _ h, eg2, ii_up_row _ _ h, eg1, ii_up_row _ _ h]
set_option maxRecDepth 20000 in
set_option maxHeartbeats 2000000 in
theorem c_canMake {l : Launch} {E : ab_E} {base : Nat} (hl : l.stackTraces = false) {ad : Nat → Nat} (f : Nat → Nat → Int) (w : Nat × Nat × Int64 × UInt64) (hr : w.2.1 ≤ 30) {v : Nat → Nat → Int} (hv : pe_C f v w.2.1) {o : Nat} (ho : ab_ob 4 w.1 w.2.1 o = some (2, [none, none, none, none, none, some (o + 10), none, none, none, none, none, none, none])) (hB : pb_B f o) {t : Nat} (ht : ab_ob 4 w.1 w.2.1 t = some (8, [some (t + 10), none])) (hta : ab_ar 4 w.1 (t + 10) = some (0, 8)) {S : List Nat} (hS : ts_I f t S) (hq : ∀ j, j < S.length → S.getD j 0 / 2 ≤ w.2.1) (k : Nat) (hk : k < S.length) (now : Int) (hnow : 0 ≤ now ∧ now ≤ 100000) (hW : wk_B f) (hWt : ∀ j, j < k → -100 ≤ f 12 j ∧ f 12 j ≤ 300000) (hap : 2 * (S.getD k 0 / 2) ∈ S → S.idxOf (2 * (S.getD k 0 / 2)) ≤ k → S.getD k 0 % 2 ≠ 0 → S.idxOf (2 * (S.getD k 0 / 2)) < k) : ab_M l E base yX8_canMake cX8_canMake 10 (some .boolean) 6 0 0 [.ref (ad 11), .ref (ad o), .ref (ad t), ii_v ((k : Nat) : Int), ii_v now] ab_x4 ad (f, w) (ab_F ad w (fun r g => r = some (ii_v (if wk_ok v S (f o 1) k (S.getD k 0) (now + f 11 4) (f 11 5) (f 12) = true then 1 else 0)) ∧ (∀ i, i ≠ 5 → g 11 i = f 11 i) ∧ g 11 5 = f 11 5 + pl_mv v (S.getD k 0) ∧ g 12 k = now + f 11 4 ∧ (∀ j, j ≠ k → g 12 j = f 12 j) ∧ ∀ o2, o2 ≠ 11 → o2 ≠ 12 → g o2 = f o2)) := by
  obtain ⟨Post, hPost⟩ : ∃ P : ab_P, P = (ab_F ad w (fun r g => r = some (ii_v (if wk_ok v S (f o 1) k (S.getD k 0) (now + f 11 4) (f 11 5) (f 12) = true then 1 else 0)) ∧ (∀ i, i ≠ 5 → g 11 i = f 11 i) ∧ g 11 5 = f 11 5 + pl_mv v (S.getD k 0) ∧ g 12 k = now + f 11 4 ∧ (∀ j, j ≠ k → g 12 j = f 12 j) ∧ ∀ o2, o2 ≠ 11 → o2 ≠ 12 → g o2 = f o2)) := ⟨_, rfl⟩
  rw [← hPost]
  refine ab_of RX8 [(0, .ref (ad 11)), (1, .ref (ad o)), (2, .ref (ad t)), (3, ii_v ((k : Nat) : Int)), (4, ii_v now)] hl (by decide) rfl (Nat.le_of_ble_eq_true rfl) rfl ?_
  intro p e s m args below meth c C T0 hnm
  obtain ⟨hc, h8, hj, hb⟩ := id hS
  obtain ⟨hB1, hB3, hB4, hB6, hB7, hB8, hB9⟩ := id hB
  have hoc := ob_bus_c ho
  have htc := ob_tour_c ht
  obtain ⟨hW2, hW3, hW4, hW5⟩ := id hW
  refine a_aload_n C dX8_canMake_0 rfl ?_
  refine a_iload_n C dX8_canMake_1 rfl ?_
  refine a_callVN (o := t) (As := [ii_v ((k : Nat) : Int)]) C (c_stopAtS hl f w ht hta hS k k rfl hk) co_X7_stopAt in_X7 mn_X8_57 im_X7_stopAt se_X7_stopAt rfl ht ar_X7_stopAt ⟨by decide, by decide, by decide, by decide⟩ rfl (Nat.le_of_ble_eq_true rfl) dX8_canMake_2 (a_dR ?_) a_nR
  have q1 := hq k (by omega)
  have qv := hv.1 _ q1
  have qr := hv.2 _ q1
  have q64 := hb k (by omega)
  refine a_istore (L' := [(0, .ref (ad 11)), (1, .ref (ad o)), (2, .ref (ad t)), (3, ii_v ((k : Nat) : Int)), (4, ii_v now), (5, ii_v (((S.getD k 0) : Nat) : Int))]) C dX8_canMake_5 (by decide) rfl ?_
  refine a_aload_n C dX8_canMake_7 rfl ?_
  refine a_get (ci := 9) (i := 0) (v := .ref (ad 2)) C iw_X8 rfl (by decide) rfl fl_X8_15 rfl rfl dX8_canMake_8 ?_
  refine a_iload C dX8_canMake_11 rfl ?_
  refine a_callSN (As := [ii_v (((S.getD k 0) : Nat) : Int)]) C (c_requestOf hl f w (S.getD k 0) (by omega)) co_X9_requestOf in_X9 mn_X8_84 sc_X9_requestOf ar_X9_requestOf ⟨by decide, by decide, by decide, by decide⟩ rfl (Nat.le_of_ble_eq_true rfl) dX8_canMake_13 (a_dR ?_) a_nR
  refine a_callVN (o := 2) (As := [ii_v ((((S.getD k 0) / 2) : Nat) : Int)]) C (c_requestAt hl f w hr ((((S.getD k 0) / 2) : Nat) : Int) ((S.getD k 0) / 2) (by omega) (by omega)) co_X0_requestAt in_X0 mn_X8_87 im_X0_requestAt se_X0_requestAt rfl rfl ar_X0_requestAt ⟨by decide, by decide, by decide, by decide⟩ rfl (Nat.le_of_ble_eq_true rfl) dX8_canMake_16 (a_dR ?_) a_nR
  refine a_astore (L' := [(0, .ref (ad 11)), (1, .ref (ad o)), (2, .ref (ad t)), (3, ii_v ((k : Nat) : Int)), (4, ii_v now), (5, ii_v (((S.getD k 0) : Nat) : Int)), (6, .ref (ad (300 + ((S.getD k 0) / 2))))]) C dX8_canMake_19 (by decide) rfl ?_
  refine a_iload C dX8_canMake_21 rfl ?_
  refine a_aload_n C dX8_canMake_23 rfl ?_
  refine a_get (ci := 9) (i := 4) (v := ii_v (f 11 4)) C iw_X8 rfl (by decide) rfl fl_X8_30 rfl rfl dX8_canMake_24 ?_
  refine a_iadd C dX8_canMake_27 ?_
  refine a_istore (L' := [(0, .ref (ad 11)), (1, .ref (ad o)), (2, .ref (ad t)), (3, ii_v ((k : Nat) : Int)), (4, ii_v now), (5, ii_v (((S.getD k 0) : Nat) : Int)), (6, .ref (ad (300 + ((S.getD k 0) / 2)))), (7, ii_v (now + (f 11 4)))]) C dX8_canMake_28 (by decide) rfl ?_
  refine a_iload_n C dX8_canMake_30 rfl ?_
  refine a_if_lt (tgt := 51) C dX8_canMake_31 rfl (by unfold ii_B; omega) (fun h31 => ?_) (fun h31 => ?_)
  · skip
    omega
  · skip
    refine a_iload_n C dX8_canMake_34 rfl ?_
    refine a_aload_n C dX8_canMake_35 rfl ?_
    refine a_get (ci := 9) (i := 1) (v := .ref (ad 12)) C iw_X8 rfl (by decide) rfl fl_X8_9 rfl rfl dX8_canMake_36 ?_
    refine a_alen (o := 12) (N := 8) C dX8_canMake_39 rfl (Or.inl rfl) ?_
    refine a_icmp_ge (tgt := 51) C dX8_canMake_40 rfl (by unfold ii_B; omega) (by unfold ii_B; omega) (fun h40 => ?_) (fun h40 => ?_)
    · skip
      omega
    · skip
      refine a_aload_n C dX8_canMake_43 rfl ?_
      refine a_get (ci := 9) (i := 1) (v := .ref (ad 12)) C iw_X8 rfl (by decide) rfl fl_X8_9 rfl rfl dX8_canMake_44 ?_
      refine a_iload_n C dX8_canMake_47 rfl ?_
      refine a_iload C dX8_canMake_48 rfl ?_
      refine a_iast (o := 12) (N := 8) k C dX8_canMake_50 rfl (by omega) (by omega) (by decide) ?_
      obtain ⟨g1, eg1⟩ : ∃ F : Nat → Nat → Int, F = ii_up f 12 k (now + (f 11 4)) := ⟨_, rfl⟩
      rw [← eg1]
      have hvg1 : pe_C g1 v w.2.1 := pe_same hv (fun o2 h => by rw [eg1]; exact ii_up_row _ _ (by omega))
      have hSg1 : ts_I g1 t S := ts_same hS (by rw [eg1]; exact ii_up_row _ _ (by omega)) (by rw [eg1]; exact ii_up_row _ _ (by omega))
      refine a_iload C dX8_canMake_51 rfl ?_
      refine a_callSN (As := [ii_v (((S.getD k 0) : Nat) : Int)]) C (c_picksUp hl g1 w (S.getD k 0) (by omega)) co_X9_picksUp in_X9 mn_X8_91 sc_X9_picksUp ar_X9_picksUp ⟨by decide, by decide, by decide, by decide⟩ rfl (Nat.le_of_ble_eq_true rfl) dX8_canMake_53 (a_dR ?_) a_nR
      refine a_bif_eq (tgt := 100) C dX8_canMake_56 rfl (fun h56 => ?_) (fun h56 => ?_)
      · skip
        refine a_aload_n C dX8_canMake_100 rfl ?_
        refine a_dup C dX8_canMake_101 rfl ?_
        refine a_get (ci := 9) (i := 5) (v := ii_v (g1 11 5)) C iw_X8 rfl (by decide) rfl fl_X8_36 rfl rfl dX8_canMake_102 ?_
        refine a_top (w := ii_v (f 11 5)) (congrArg (fun q => ii_v q) (show g1 11 5 = (f 11 5) by rw [eg1, ii_up_o _ _ _ (by omega)])) ?_
        refine a_aload C dX8_canMake_105 rfl ?_
        refine a_getN (ci := 7) (i := 4) (v := ii_v (g1 (300 + ((S.getD k 0) / 2)) 4)) C iw_X6 rfl (by decide) rfl fn_X8_95 (ob_req (by omega)) rfl dX8_canMake_107 ?_
        refine a_top (w := ii_v (f (300 + ((S.getD k 0) / 2)) 4)) (congrArg (fun q => ii_v q) (show g1 (300 + ((S.getD k 0) / 2)) 4 = (f (300 + ((S.getD k 0) / 2)) 4) by rw [eg1, ii_up_o _ _ _ (by omega)])) ?_
        refine a_top (w := ii_v (v 2 ((S.getD k 0) / 2))) (congrArg (fun q => ii_v q) (hv.2 ((S.getD k 0) / 2) (by omega)).1) ?_
        refine a_isub C dX8_canMake_110 ?_
        refine a_put (ci := 9) (i := 5) C iw_X8 rfl (by decide) rfl tyX8 tyX8_ok nmX8 rfl rfl fl_X8_36 rfl rfl rfl rfl dX8_canMake_111 ?_
        obtain ⟨g2, eg2⟩ : ∃ F : Nat → Nat → Int, F = ii_up g1 11 5 ((f 11 5) - (v 2 ((S.getD k 0) / 2))) := ⟨_, rfl⟩
        rw [← eg2]
        have hvg2 : pe_C g2 v w.2.1 := pe_same hvg1 (fun o2 h => by rw [eg2]; exact ii_up_row _ _ (by omega))
        have hSg2 : ts_I g2 t S := ts_same hSg1 (by rw [eg2]; exact ii_up_row _ _ (by omega)) (by rw [eg2]; exact ii_up_row _ _ (by omega))
        refine a_aload_n C dX8_canMake_114 rfl ?_
        refine a_iload C dX8_canMake_115 rfl ?_
        refine a_callSN (As := [ii_v (((S.getD k 0) : Nat) : Int)]) C (c_requestOf hl g2 w (S.getD k 0) (by omega)) co_X9_requestOf in_X9 mn_X8_84 sc_X9_requestOf ar_X9_requestOf ⟨by decide, by decide, by decide, by decide⟩ rfl (Nat.le_of_ble_eq_true rfl) dX8_canMake_117 (a_dR ?_) a_nR
        refine a_callSN (As := [ii_v ((((S.getD k 0) / 2) : Nat) : Int)]) C (c_pickupOf hl g2 w ((S.getD k 0) / 2)) co_X9_pickupOf in_X9 mn_X8_104 sc_X9_pickupOf ar_X9_pickupOf ⟨by decide, by decide, by decide, by decide⟩ rfl (Nat.le_of_ble_eq_true rfl) dX8_canMake_120 (a_dR ?_) a_nR
        refine a_callVN (o := t) (As := [ii_v (((2 * ((S.getD k 0) / 2)) : Nat) : Int)]) C (c_indexOf hl g2 w ht hta hSg2 (2 * (S.getD k 0 / 2)) (by omega)) co_X7_indexOf in_X7 mn_X8_107 im_X7_indexOf se_X7_indexOf rfl ht ar_X7_indexOf ⟨by decide, by decide, by decide, by decide⟩ rfl (Nat.le_of_ble_eq_true rfl) dX8_canMake_123 (a_dR ?_) a_nR
        refine a_istore (L' := [(0, .ref (ad 11)), (1, .ref (ad o)), (2, .ref (ad t)), (3, ii_v ((k : Nat) : Int)), (4, ii_v now), (5, ii_v (((S.getD k 0) : Nat) : Int)), (6, .ref (ad (300 + ((S.getD k 0) / 2)))), (7, ii_v (now + (f 11 4))), (8, ii_v (if (2 * (S.getD k 0 / 2)) ∈ S then (S.idxOf (2 * (S.getD k 0 / 2)) : Int) else -1))]) C dX8_canMake_126 (by decide) rfl ?_
        have hil : S.idxOf (2 * (S.getD k 0 / 2)) ≤ S.length := List.idxOf_le_length
        refine a_iload C dX8_canMake_128 rfl ?_
        refine a_iload_n C dX8_canMake_130 rfl ?_
        refine a_icmp_le (tgt := 136) C dX8_canMake_131 rfl (by unfold ii_B; split <;> omega) (by unfold ii_B; omega) (fun h131 => ?_) (fun h131 => ?_)
        · skip
          have hm2 : ¬ ((2 * (S.getD k 0 / 2)) ∈ S ∧ k < S.idxOf (2 * (S.getD k 0 / 2))) := fun q => by rw [if_pos q.1] at h131; omega
          refine a_iload C dX8_canMake_136 rfl ?_
          refine a_if_lt (tgt := 161) C dX8_canMake_138 rfl (by unfold ii_B; split <;> omega) (fun h138 => ?_) (fun h138 => ?_)
          · skip
            have hm : (2 * (S.getD k 0 / 2)) ∉ S := fun q => by rw [if_pos q] at h138; omega
            refine a_aload C dX8_canMake_161 rfl ?_
            refine a_getN (ci := 7) (i := 11) (v := ii_v (g2 (300 + ((S.getD k 0) / 2)) 11)) C iw_X6 rfl (by decide) rfl fn_X8_110 (ob_req (by omega)) rfl dX8_canMake_163 ?_
            refine a_top (w := ii_v (f (300 + ((S.getD k 0) / 2)) 11)) (congrArg (fun q => ii_v q) (show g2 (300 + ((S.getD k 0) / 2)) 11 = (f (300 + ((S.getD k 0) / 2)) 11) by rw [eg2, ii_up_o _ _ _ (by omega), eg1, ii_up_o _ _ _ (by omega)])) ?_
            refine a_top (w := ii_v (v 5 ((S.getD k 0) / 2))) (congrArg (fun q => ii_v q) (hv.2 ((S.getD k 0) / 2) (by omega)).2.2.2.1) ?_
            refine a_istore (L' := [(0, .ref (ad 11)), (1, .ref (ad o)), (2, .ref (ad t)), (3, ii_v ((k : Nat) : Int)), (4, ii_v now), (5, ii_v (((S.getD k 0) : Nat) : Int)), (6, .ref (ad (300 + ((S.getD k 0) / 2)))), (7, ii_v (now + (f 11 4))), (8, ii_v (if (2 * (S.getD k 0 / 2)) ∈ S then (S.idxOf (2 * (S.getD k 0 / 2)) : Int) else -1)), (9, ii_v (v 5 ((S.getD k 0) / 2)))]) C dX8_canMake_166 (by decide) rfl ?_
            refine a_iload C dX8_canMake_168 rfl ?_
            refine a_iload C dX8_canMake_170 rfl ?_
            refine a_isub C dX8_canMake_172 ?_
            refine a_aload C dX8_canMake_173 rfl ?_
            refine a_getN (ci := 7) (i := 7) (v := ii_v (g2 (300 + ((S.getD k 0) / 2)) 7)) C iw_X6 rfl (by decide) rfl fn_X8_113 (ob_req (by omega)) rfl dX8_canMake_175 ?_
            refine a_top (w := ii_v (f (300 + ((S.getD k 0) / 2)) 7)) (congrArg (fun q => ii_v q) (show g2 (300 + ((S.getD k 0) / 2)) 7 = (f (300 + ((S.getD k 0) / 2)) 7) by rw [eg2, ii_up_o _ _ _ (by omega), eg1, ii_up_o _ _ _ (by omega)])) ?_
            refine a_top (w := ii_v (v 4 ((S.getD k 0) / 2))) (congrArg (fun q => ii_v q) (hv.2 ((S.getD k 0) / 2) (by omega)).2.2.1) ?_
            refine a_icmp_gt (tgt := 185) C dX8_canMake_178 rfl (by unfold ii_B; omega) (by unfold ii_B; omega) (fun h178 => ?_) (fun h178 => ?_)
            · skip
              refine a_iconst C dX8_canMake_185 ?_
              refine a_zret C (by decide) ?_ (by decide) (by decide) dX8_canMake_186
              rw [hPost]
              refine ab_F_of ⟨?_, fun i h => ?_, ?_, (by rw [eg2, ii_up_o _ _ _ (by omega), eg1, ii_up_s]), fun j h => ?_, fun o2 h h2 => ?_⟩
              · first | exact wk_ret (wk_y1 (by assumption) (by omega) (by omega)) | exact wk_ret0 (wk_n1 (by assumption) (by omega)) | exact wk_ret0 (wk_n2 (by assumption) hm2) | exact wk_ret (wk_y3 (by assumption) hm2 hm (by omega)) | exact wk_ret0 (wk_n3 (by assumption) hm (by omega)) | exact wk_ret (wk_y4 (by assumption) hm2 hm (by omega)) | exact wk_ret0 (wk_n4 (by assumption) hm (by omega))
              · rw [eg2, ii_up_k _ _ h, eg1, ii_up_o _ _ _ (by decide)]
              · rw [eg2, ii_up_s]
                unfold pl_mv
                first | rw [if_pos (by assumption)] | (rw [if_neg (by assumption)]; omega)
              · rw [eg2, ii_up_o _ _ _ (by decide), eg1, ii_up_k _ _ h]
              · rw [eg2, ii_up_row _ _ h, eg1, ii_up_row _ _ h2]
            · skip
              refine a_iconst C dX8_canMake_181 ?_
              refine a_goto (tgt := 186) C dX8_canMake_182 rfl ?_
              refine a_zret C (by decide) ?_ (by decide) (by decide) dX8_canMake_186
              rw [hPost]
              refine ab_F_of ⟨?_, fun i h => ?_, ?_, (by rw [eg2, ii_up_o _ _ _ (by omega), eg1, ii_up_s]), fun j h => ?_, fun o2 h h2 => ?_⟩
              · first | exact wk_ret (wk_y1 (by assumption) (by omega) (by omega)) | exact wk_ret0 (wk_n1 (by assumption) (by omega)) | exact wk_ret0 (wk_n2 (by assumption) hm2) | exact wk_ret (wk_y3 (by assumption) hm2 hm (by omega)) | exact wk_ret0 (wk_n3 (by assumption) hm (by omega)) | exact wk_ret (wk_y4 (by assumption) hm2 hm (by omega)) | exact wk_ret0 (wk_n4 (by assumption) hm (by omega))
              · rw [eg2, ii_up_k _ _ h, eg1, ii_up_o _ _ _ (by decide)]
              · rw [eg2, ii_up_s]
                unfold pl_mv
                first | rw [if_pos (by assumption)] | (rw [if_neg (by assumption)]; omega)
              · rw [eg2, ii_up_o _ _ _ (by decide), eg1, ii_up_k _ _ h]
              · rw [eg2, ii_up_row _ _ h, eg1, ii_up_row _ _ h2]
          · skip
            have hm : (2 * (S.getD k 0 / 2)) ∈ S := Classical.byContradiction fun q => by rw [if_neg q] at h138; omega
            rw [if_pos hm]
            have hi1 := (gd_idx (d := 0) hm).1
            have hik := hap hm (by omega) (by assumption)
            have hwt := hWt _ hik
            refine a_iload C dX8_canMake_141 rfl ?_
            refine a_aload_n C dX8_canMake_143 rfl ?_
            refine a_get (ci := 9) (i := 1) (v := .ref (ad 12)) C iw_X8 rfl (by decide) rfl fl_X8_9 rfl rfl dX8_canMake_144 ?_
            refine a_alen (o := 12) (N := 8) C dX8_canMake_147 rfl (Or.inl rfl) ?_
            refine a_icmp_ge (tgt := 161) C dX8_canMake_148 rfl (by unfold ii_B; omega) (by unfold ii_B; omega) (fun h148 => ?_) (fun h148 => ?_)
            · skip
              omega
            · skip
              refine a_aload_n C dX8_canMake_151 rfl ?_
              refine a_get (ci := 9) (i := 1) (v := .ref (ad 12)) C iw_X8 rfl (by decide) rfl fl_X8_9 rfl rfl dX8_canMake_152 ?_
              refine a_iload C dX8_canMake_155 rfl ?_
              refine a_iald (o := 12) (N := 8) (S.idxOf (2 * (S.getD k 0 / 2))) C dX8_canMake_157 rfl (by omega) (by omega) (by decide) ?_
              refine a_top (w := ii_v (f 12 (S.idxOf (2 * (S.getD k 0 / 2))))) (congrArg (fun q => ii_v q) (show g2 12 (S.idxOf (2 * (S.getD k 0 / 2))) = (f 12 (S.idxOf (2 * (S.getD k 0 / 2)))) by rw [eg2, ii_up_o _ _ _ (by omega), eg1, ii_up_k _ _ (by first | decide | omega)])) ?_
              refine a_goto (tgt := 166) C dX8_canMake_158 rfl ?_
              refine a_istore (L' := [(0, .ref (ad 11)), (1, .ref (ad o)), (2, .ref (ad t)), (3, ii_v ((k : Nat) : Int)), (4, ii_v now), (5, ii_v (((S.getD k 0) : Nat) : Int)), (6, .ref (ad (300 + ((S.getD k 0) / 2)))), (7, ii_v (now + (f 11 4))), (8, ii_v (((S.idxOf (2 * (S.getD k 0 / 2))) : Nat) : Int)), (9, ii_v (f 12 (S.idxOf (2 * (S.getD k 0 / 2)))))]) C dX8_canMake_166 (by decide) rfl ?_
              refine a_iload C dX8_canMake_168 rfl ?_
              refine a_iload C dX8_canMake_170 rfl ?_
              refine a_isub C dX8_canMake_172 ?_
              refine a_aload C dX8_canMake_173 rfl ?_
              refine a_getN (ci := 7) (i := 7) (v := ii_v (g2 (300 + ((S.getD k 0) / 2)) 7)) C iw_X6 rfl (by decide) rfl fn_X8_113 (ob_req (by omega)) rfl dX8_canMake_175 ?_
              refine a_top (w := ii_v (f (300 + ((S.getD k 0) / 2)) 7)) (congrArg (fun q => ii_v q) (show g2 (300 + ((S.getD k 0) / 2)) 7 = (f (300 + ((S.getD k 0) / 2)) 7) by rw [eg2, ii_up_o _ _ _ (by omega), eg1, ii_up_o _ _ _ (by omega)])) ?_
              refine a_top (w := ii_v (v 4 ((S.getD k 0) / 2))) (congrArg (fun q => ii_v q) (hv.2 ((S.getD k 0) / 2) (by omega)).2.2.1) ?_
              refine a_icmp_gt (tgt := 185) C dX8_canMake_178 rfl (by unfold ii_B; omega) (by unfold ii_B; omega) (fun h178 => ?_) (fun h178 => ?_)
              · skip
                refine a_iconst C dX8_canMake_185 ?_
                refine a_zret C (by decide) ?_ (by decide) (by decide) dX8_canMake_186
                rw [hPost]
                refine ab_F_of ⟨?_, fun i h => ?_, ?_, (by rw [eg2, ii_up_o _ _ _ (by omega), eg1, ii_up_s]), fun j h => ?_, fun o2 h h2 => ?_⟩
                · first | exact wk_ret (wk_y1 (by assumption) (by omega) (by omega)) | exact wk_ret0 (wk_n1 (by assumption) (by omega)) | exact wk_ret0 (wk_n2 (by assumption) hm2) | exact wk_ret (wk_y3 (by assumption) hm2 hm (by omega)) | exact wk_ret0 (wk_n3 (by assumption) hm (by omega)) | exact wk_ret (wk_y4 (by assumption) hm2 hm (by omega)) | exact wk_ret0 (wk_n4 (by assumption) hm (by omega))
                · rw [eg2, ii_up_k _ _ h, eg1, ii_up_o _ _ _ (by decide)]
                · rw [eg2, ii_up_s]
                  unfold pl_mv
                  first | rw [if_pos (by assumption)] | (rw [if_neg (by assumption)]; omega)
                · rw [eg2, ii_up_o _ _ _ (by decide), eg1, ii_up_k _ _ h]
                · rw [eg2, ii_up_row _ _ h, eg1, ii_up_row _ _ h2]
              · skip
                refine a_iconst C dX8_canMake_181 ?_
                refine a_goto (tgt := 186) C dX8_canMake_182 rfl ?_
                refine a_zret C (by decide) ?_ (by decide) (by decide) dX8_canMake_186
                rw [hPost]
                refine ab_F_of ⟨?_, fun i h => ?_, ?_, (by rw [eg2, ii_up_o _ _ _ (by omega), eg1, ii_up_s]), fun j h => ?_, fun o2 h h2 => ?_⟩
                · first | exact wk_ret (wk_y1 (by assumption) (by omega) (by omega)) | exact wk_ret0 (wk_n1 (by assumption) (by omega)) | exact wk_ret0 (wk_n2 (by assumption) hm2) | exact wk_ret (wk_y3 (by assumption) hm2 hm (by omega)) | exact wk_ret0 (wk_n3 (by assumption) hm (by omega)) | exact wk_ret (wk_y4 (by assumption) hm2 hm (by omega)) | exact wk_ret0 (wk_n4 (by assumption) hm (by omega))
                · rw [eg2, ii_up_k _ _ h, eg1, ii_up_o _ _ _ (by decide)]
                · rw [eg2, ii_up_s]
                  unfold pl_mv
                  first | rw [if_pos (by assumption)] | (rw [if_neg (by assumption)]; omega)
                · rw [eg2, ii_up_o _ _ _ (by decide), eg1, ii_up_k _ _ h]
                · rw [eg2, ii_up_row _ _ h, eg1, ii_up_row _ _ h2]
        · skip
          have hm2 : (2 * (S.getD k 0 / 2)) ∈ S ∧ k < S.idxOf (2 * (S.getD k 0 / 2)) := wk_far h131
          refine a_iconst C dX8_canMake_134 ?_
          refine a_zret C (by decide) ?_ (by decide) (by decide) dX8_canMake_135
          rw [hPost]
          refine ab_F_of ⟨?_, fun i h => ?_, ?_, (by rw [eg2, ii_up_o _ _ _ (by omega), eg1, ii_up_s]), fun j h => ?_, fun o2 h h2 => ?_⟩
          · first | exact wk_ret (wk_y1 (by assumption) (by omega) (by omega)) | exact wk_ret0 (wk_n1 (by assumption) (by omega)) | exact wk_ret0 (wk_n2 (by assumption) hm2) | exact wk_ret (wk_y3 (by assumption) hm2 hm (by omega)) | exact wk_ret0 (wk_n3 (by assumption) hm (by omega)) | exact wk_ret (wk_y4 (by assumption) hm2 hm (by omega)) | exact wk_ret0 (wk_n4 (by assumption) hm (by omega))
          · rw [eg2, ii_up_k _ _ h, eg1, ii_up_o _ _ _ (by decide)]
          · rw [eg2, ii_up_s]
            unfold pl_mv
            first | rw [if_pos (by assumption)] | (rw [if_neg (by assumption)]; omega)
          · rw [eg2, ii_up_o _ _ _ (by decide), eg1, ii_up_k _ _ h]
          · rw [eg2, ii_up_row _ _ h, eg1, ii_up_row _ _ h2]
      · skip
        refine a_aload_n C dX8_canMake_59 rfl ?_
        refine a_dup C dX8_canMake_60 rfl ?_
        refine a_get (ci := 9) (i := 5) (v := ii_v (g1 11 5)) C iw_X8 rfl (by decide) rfl fl_X8_36 rfl rfl dX8_canMake_61 ?_
        refine a_top (w := ii_v (f 11 5)) (congrArg (fun q => ii_v q) (show g1 11 5 = (f 11 5) by rw [eg1, ii_up_o _ _ _ (by omega)])) ?_
        refine a_aload C dX8_canMake_64 rfl ?_
        refine a_getN (ci := 7) (i := 4) (v := ii_v (g1 (300 + ((S.getD k 0) / 2)) 4)) C iw_X6 rfl (by decide) rfl fn_X8_95 (ob_req (by omega)) rfl dX8_canMake_66 ?_
        refine a_top (w := ii_v (f (300 + ((S.getD k 0) / 2)) 4)) (congrArg (fun q => ii_v q) (show g1 (300 + ((S.getD k 0) / 2)) 4 = (f (300 + ((S.getD k 0) / 2)) 4) by rw [eg1, ii_up_o _ _ _ (by omega)])) ?_
        refine a_top (w := ii_v (v 2 ((S.getD k 0) / 2))) (congrArg (fun q => ii_v q) (hv.2 ((S.getD k 0) / 2) (by omega)).1) ?_
        refine a_iadd C dX8_canMake_69 ?_
        refine a_put (ci := 9) (i := 5) C iw_X8 rfl (by decide) rfl tyX8 tyX8_ok nmX8 rfl rfl fl_X8_36 rfl rfl rfl rfl dX8_canMake_70 ?_
        obtain ⟨g3, eg3⟩ : ∃ F : Nat → Nat → Int, F = ii_up g1 11 5 ((f 11 5) + (v 2 ((S.getD k 0) / 2))) := ⟨_, rfl⟩
        rw [← eg3]
        have hvg3 : pe_C g3 v w.2.1 := pe_same hvg1 (fun o2 h => by rw [eg3]; exact ii_up_row _ _ (by omega))
        have hSg3 : ts_I g3 t S := ts_same hSg1 (by rw [eg3]; exact ii_up_row _ _ (by omega)) (by rw [eg3]; exact ii_up_row _ _ (by omega))
        refine a_aload_n C dX8_canMake_73 rfl ?_
        refine a_get (ci := 9) (i := 5) (v := ii_v (g3 11 5)) C iw_X8 rfl (by decide) rfl fl_X8_36 rfl rfl dX8_canMake_74 ?_
        refine a_top (w := ii_v ((f 11 5) + (v 2 ((S.getD k 0) / 2)))) (congrArg (fun q => ii_v q) (show g3 11 5 = ((f 11 5) + (v 2 ((S.getD k 0) / 2))) by rw [eg3, ii_up_s])) ?_
        refine a_aload_n C dX8_canMake_77 rfl ?_
        refine a_getN (ci := 2) (i := 1) (v := ii_v (g3 o 1)) C iw_X1 rfl (by decide) rfl fn_X8_98 ho rfl dX8_canMake_78 ?_
        refine a_top (w := ii_v (f o 1)) (congrArg (fun q => ii_v q) (show g3 o 1 = (f o 1) by rw [eg3, ii_up_o _ _ _ (by omega), eg1, ii_up_o _ _ _ (by omega)])) ?_
        refine a_icmp_gt (tgt := 98) C dX8_canMake_81 rfl (by unfold ii_B; omega) (by unfold ii_B; omega) (fun h81 => ?_) (fun h81 => ?_)
        · skip
          refine a_iconst C dX8_canMake_98 ?_
          refine a_zret C (by decide) ?_ (by decide) (by decide) dX8_canMake_99
          rw [hPost]
          refine ab_F_of ⟨?_, fun i h => ?_, ?_, (by rw [eg3, ii_up_o _ _ _ (by omega), eg1, ii_up_s]), fun j h => ?_, fun o2 h h2 => ?_⟩
          · first | exact wk_ret (wk_y1 (by assumption) (by omega) (by omega)) | exact wk_ret0 (wk_n1 (by assumption) (by omega)) | exact wk_ret0 (wk_n2 (by assumption) hm2) | exact wk_ret (wk_y3 (by assumption) hm2 hm (by omega)) | exact wk_ret0 (wk_n3 (by assumption) hm (by omega)) | exact wk_ret (wk_y4 (by assumption) hm2 hm (by omega)) | exact wk_ret0 (wk_n4 (by assumption) hm (by omega))
          · rw [eg3, ii_up_k _ _ h, eg1, ii_up_o _ _ _ (by decide)]
          · rw [eg3, ii_up_s]
            unfold pl_mv
            first | rw [if_pos (by assumption)] | (rw [if_neg (by assumption)]; omega)
          · rw [eg3, ii_up_o _ _ _ (by decide), eg1, ii_up_k _ _ h]
          · rw [eg3, ii_up_row _ _ h, eg1, ii_up_row _ _ h2]
        · skip
          refine a_iload C dX8_canMake_84 rfl ?_
          refine a_aload C dX8_canMake_86 rfl ?_
          refine a_getN (ci := 7) (i := 6) (v := ii_v (g3 (300 + ((S.getD k 0) / 2)) 6)) C iw_X6 rfl (by decide) rfl fn_X8_101 (ob_req (by omega)) rfl dX8_canMake_88 ?_
          refine a_top (w := ii_v (f (300 + ((S.getD k 0) / 2)) 6)) (congrArg (fun q => ii_v q) (show g3 (300 + ((S.getD k 0) / 2)) 6 = (f (300 + ((S.getD k 0) / 2)) 6) by rw [eg3, ii_up_o _ _ _ (by omega), eg1, ii_up_o _ _ _ (by omega)])) ?_
          refine a_top (w := ii_v (v 3 ((S.getD k 0) / 2))) (congrArg (fun q => ii_v q) (hv.2 ((S.getD k 0) / 2) (by omega)).2.1) ?_
          refine a_icmp_gt (tgt := 98) C dX8_canMake_91 rfl (by unfold ii_B; omega) (by unfold ii_B; omega) (fun h91 => ?_) (fun h91 => ?_)
          · skip
            refine a_iconst C dX8_canMake_98 ?_
            refine a_zret C (by decide) ?_ (by decide) (by decide) dX8_canMake_99
            rw [hPost]
            refine ab_F_of ⟨?_, fun i h => ?_, ?_, (by rw [eg3, ii_up_o _ _ _ (by omega), eg1, ii_up_s]), fun j h => ?_, fun o2 h h2 => ?_⟩
            · first | exact wk_ret (wk_y1 (by assumption) (by omega) (by omega)) | exact wk_ret0 (wk_n1 (by assumption) (by omega)) | exact wk_ret0 (wk_n2 (by assumption) hm2) | exact wk_ret (wk_y3 (by assumption) hm2 hm (by omega)) | exact wk_ret0 (wk_n3 (by assumption) hm (by omega)) | exact wk_ret (wk_y4 (by assumption) hm2 hm (by omega)) | exact wk_ret0 (wk_n4 (by assumption) hm (by omega))
            · rw [eg3, ii_up_k _ _ h, eg1, ii_up_o _ _ _ (by decide)]
            · rw [eg3, ii_up_s]
              unfold pl_mv
              first | rw [if_pos (by assumption)] | (rw [if_neg (by assumption)]; omega)
            · rw [eg3, ii_up_o _ _ _ (by decide), eg1, ii_up_k _ _ h]
            · rw [eg3, ii_up_row _ _ h, eg1, ii_up_row _ _ h2]
          · skip
            refine a_iconst C dX8_canMake_94 ?_
            refine a_goto (tgt := 99) C dX8_canMake_95 rfl ?_
            refine a_zret C (by decide) ?_ (by decide) (by decide) dX8_canMake_99
            rw [hPost]
            refine ab_F_of ⟨?_, fun i h => ?_, ?_, (by rw [eg3, ii_up_o _ _ _ (by omega), eg1, ii_up_s]), fun j h => ?_, fun o2 h h2 => ?_⟩
            · first | exact wk_ret (wk_y1 (by assumption) (by omega) (by omega)) | exact wk_ret0 (wk_n1 (by assumption) (by omega)) | exact wk_ret0 (wk_n2 (by assumption) hm2) | exact wk_ret (wk_y3 (by assumption) hm2 hm (by omega)) | exact wk_ret0 (wk_n3 (by assumption) hm (by omega)) | exact wk_ret (wk_y4 (by assumption) hm2 hm (by omega)) | exact wk_ret0 (wk_n4 (by assumption) hm (by omega))
            · rw [eg3, ii_up_k _ _ h, eg1, ii_up_o _ _ _ (by decide)]
            · rw [eg3, ii_up_s]
              unfold pl_mv
              first | rw [if_pos (by assumption)] | (rw [if_neg (by assumption)]; omega)
            · rw [eg3, ii_up_o _ _ _ (by decide), eg1, ii_up_k _ _ h]
            · rw [eg3, ii_up_row _ _ h, eg1, ii_up_row _ _ h2]
set_option maxRecDepth 20000 in
set_option maxHeartbeats 2000000 in
theorem c_follow {l : Launch} {E : ab_E} {base : Nat} (hl : l.stackTraces = false) {ad : Nat → Nat} (f : Nat → Nat → Int) (w : Nat × Nat × Int64 × UInt64) (hr : w.2.1 ≤ 30) {v : Nat → Nat → Int} (hv : pe_C f v w.2.1) {o : Nat} (ho : ab_ob 4 w.1 w.2.1 o = some (2, [none, none, none, none, none, some (o + 10), none, none, none, none, none, none, none])) (hB : pb_B f o) {t : Nat} (ht : ab_ob 4 w.1 w.2.1 t = some (8, [some (t + 10), none])) (hta : ab_ar 4 w.1 (t + 10) = some (0, 8)) {S : List Nat} (hS : ts_I f t S) (hq : ∀ j, j < S.length → S.getD j 0 / 2 ≤ w.2.1) (now : Int) (hnow : 0 ≤ now ∧ now ≤ 100000) (bound : Int) (hbd : -10000 ≤ bound ∧ bound ≤ 2000000) (hpr : ∀ k, k < S.length → S.getD k 0 % 2 ≠ 0 → S.idxOf (2 * (S.getD k 0 / 2)) ≠ k)  : ab_M l E base yX8_follow cX8_follow 7 (some .int) 8 0 0 [.ref (ad 11), .ref (ad o), .ref (ad t), ii_v now, ii_v bound] ab_x4 ad (f, w) (ab_F ad w (fun r g => (6 < S.length → r = some (ii_v 0)) ∧ (S.length ≤ 6 → r = some (ii_v (wk_f v S (f o 1) (f o 8) bound (f o 3) (f o 4) now S 0 (f o 6) (f o 7) 0 (f o 9) []).1) ∧ g 11 6 = (wk_f v S (f o 1) (f o 8) bound (f o 3) (f o 4) now S 0 (f o 6) (f o 7) 0 (f o 9) []).2) ∧ ∀ o2, o2 ≠ 11 → o2 ≠ 12 → g o2 = f o2)) := by
  obtain ⟨Post, hPost⟩ : ∃ P : ab_P, P = (ab_F ad w (fun r g => (6 < S.length → r = some (ii_v 0)) ∧ (S.length ≤ 6 → r = some (ii_v (wk_f v S (f o 1) (f o 8) bound (f o 3) (f o 4) now S 0 (f o 6) (f o 7) 0 (f o 9) []).1) ∧ g 11 6 = (wk_f v S (f o 1) (f o 8) bound (f o 3) (f o 4) now S 0 (f o 6) (f o 7) 0 (f o 9) []).2) ∧ ∀ o2, o2 ≠ 11 → o2 ≠ 12 → g o2 = f o2)) := ⟨_, rfl⟩
  rw [← hPost]
  refine ab_of RX8 [(0, .ref (ad 11)), (1, .ref (ad o)), (2, .ref (ad t)), (3, ii_v now), (4, ii_v bound)] hl (by decide) rfl (Nat.le_of_ble_eq_true rfl) rfl ?_
  intro p e s m args below meth c C T0 hnm
  obtain ⟨hc, h8, hj, hb⟩ := id hS
  obtain ⟨hB1, hB3, hB4, hB6, hB7, hB8, hB9⟩ := id hB
  have hoc := ob_bus_c ho
  have htc := ob_tour_c ht
  have hd0 := pd_b (x := f o 6) (y := f o 7) (u := f o 3) (v := f o 4) (by omega) (by omega) (by omega) (by omega)
  refine a_aload_n C dX8_follow_0 rfl ?_
  refine a_aload_n C dX8_follow_1 rfl ?_
  refine a_getN (ci := 2) (i := 6) (v := ii_v (f o 6)) C iw_X1 rfl (by decide) rfl fn_X8_19 ho rfl dX8_follow_2 ?_
  refine a_put (ci := 9) (i := 2) C iw_X8 rfl (by decide) rfl tyX8 tyX8_ok nmX8 rfl rfl fl_X8_25 rfl rfl rfl rfl dX8_follow_5 ?_
  obtain ⟨g1, eg1⟩ : ∃ F : Nat → Nat → Int, F = ii_up f 11 2 (f o 6) := ⟨_, rfl⟩
  rw [← eg1]
  refine a_aload_n C dX8_follow_8 rfl ?_
  refine a_aload_n C dX8_follow_9 rfl ?_
  refine a_getN (ci := 2) (i := 7) (v := ii_v (g1 o 7)) C iw_X1 rfl (by decide) rfl fn_X8_26 ho rfl dX8_follow_10 ?_
  refine a_top (w := ii_v (f o 7)) (congrArg (fun q => ii_v q) (show g1 o 7 = (f o 7) by rw [eg1, ii_up_o _ _ _ (by omega)])) ?_
  refine a_put (ci := 9) (i := 3) C iw_X8 rfl (by decide) rfl tyX8 tyX8_ok nmX8 rfl rfl fl_X8_29 rfl rfl rfl rfl dX8_follow_13 ?_
  obtain ⟨g2, eg2⟩ : ∃ F : Nat → Nat → Int, F = ii_up g1 11 3 (f o 7) := ⟨_, rfl⟩
  rw [← eg2]
  refine a_aload_n C dX8_follow_16 rfl ?_
  refine a_iconst C dX8_follow_17 ?_
  refine a_put (ci := 9) (i := 4) C iw_X8 rfl (by decide) rfl tyX8 tyX8_ok nmX8 rfl rfl fl_X8_30 rfl rfl rfl rfl dX8_follow_18 ?_
  obtain ⟨g3, eg3⟩ : ∃ F : Nat → Nat → Int, F = ii_up g2 11 4 0 := ⟨_, rfl⟩
  rw [← eg3]
  refine a_aload_n C dX8_follow_21 rfl ?_
  refine a_aload_n C dX8_follow_22 rfl ?_
  refine a_getN (ci := 2) (i := 9) (v := ii_v (g3 o 9)) C iw_X1 rfl (by decide) rfl fn_X8_33 ho rfl dX8_follow_23 ?_
  refine a_top (w := ii_v (f o 9)) (congrArg (fun q => ii_v q) (show g3 o 9 = (f o 9) by rw [eg3, ii_up_o _ _ _ (by omega), eg2, ii_up_o _ _ _ (by omega), eg1, ii_up_o _ _ _ (by omega)])) ?_
  refine a_put (ci := 9) (i := 5) C iw_X8 rfl (by decide) rfl tyX8 tyX8_ok nmX8 rfl rfl fl_X8_36 rfl rfl rfl rfl dX8_follow_26 ?_
  obtain ⟨g4, eg4⟩ : ∃ F : Nat → Nat → Int, F = ii_up g3 11 5 (f o 9) := ⟨_, rfl⟩
  rw [← eg4]
  refine a_aload_n C dX8_follow_29 rfl ?_
  refine a_aload_n C dX8_follow_30 rfl ?_
  refine a_get (ci := 9) (i := 2) (v := ii_v (g4 11 2)) C iw_X8 rfl (by decide) rfl fl_X8_25 rfl rfl dX8_follow_31 ?_
  refine a_top (w := ii_v (f o 6)) (congrArg (fun q => ii_v q) (show g4 11 2 = (f o 6) by rw [eg4, ii_up_k _ _ (by first | decide | omega), eg3, ii_up_k _ _ (by first | decide | omega), eg2, ii_up_k _ _ (by first | decide | omega), eg1, ii_up_s])) ?_
  refine a_aload_n C dX8_follow_34 rfl ?_
  refine a_get (ci := 9) (i := 3) (v := ii_v (g4 11 3)) C iw_X8 rfl (by decide) rfl fl_X8_29 rfl rfl dX8_follow_35 ?_
  refine a_top (w := ii_v (f o 7)) (congrArg (fun q => ii_v q) (show g4 11 3 = (f o 7) by rw [eg4, ii_up_k _ _ (by first | decide | omega), eg3, ii_up_k _ _ (by first | decide | omega), eg2, ii_up_s])) ?_
  refine a_aload_n C dX8_follow_38 rfl ?_
  refine a_getN (ci := 2) (i := 3) (v := ii_v (g4 o 3)) C iw_X1 rfl (by decide) rfl fn_X8_39 ho rfl dX8_follow_39 ?_
  refine a_top (w := ii_v (f o 3)) (congrArg (fun q => ii_v q) (show g4 o 3 = (f o 3) by rw [eg4, ii_up_o _ _ _ (by omega), eg3, ii_up_o _ _ _ (by omega), eg2, ii_up_o _ _ _ (by omega), eg1, ii_up_o _ _ _ (by omega)])) ?_
  refine a_aload_n C dX8_follow_42 rfl ?_
  refine a_getN (ci := 2) (i := 4) (v := ii_v (g4 o 4)) C iw_X1 rfl (by decide) rfl fn_X8_42 ho rfl dX8_follow_43 ?_
  refine a_top (w := ii_v (f o 4)) (congrArg (fun q => ii_v q) (show g4 o 4 = (f o 4) by rw [eg4, ii_up_o _ _ _ (by omega), eg3, ii_up_o _ _ _ (by omega), eg2, ii_up_o _ _ _ (by omega), eg1, ii_up_o _ _ _ (by omega)])) ?_
  refine a_callSN (As := [ii_v (f o 6), ii_v (f o 7), ii_v (f o 3), ii_v (f o 4)]) C (c_distance hl g4 w (f o 6) (f o 7) (f o 3) (f o 4) (by omega) (by omega) (by omega) (by omega)) co_X9_distance in_X9 mn_X8_45 sc_X9_distance ar_X9_distance ⟨by decide, by decide, by decide, by decide⟩ rfl (Nat.le_of_ble_eq_true rfl) dX8_follow_46 (a_dR ?_) a_nR
  refine a_put (ci := 9) (i := 6) C iw_X8 rfl (by decide) rfl tyX8 tyX8_ok nmX8 rfl rfl fl_X8_49 rfl rfl rfl rfl dX8_follow_49 ?_
  obtain ⟨g5, eg5⟩ : ∃ F : Nat → Nat → Int, F = ii_up g4 11 6 (pd_d (f o 6) (f o 7) (f o 3) (f o 4)) := ⟨_, rfl⟩
  rw [← eg5]
  refine a_aload_n C dX8_follow_52 rfl ?_
  refine a_getN (ci := 8) (i := 1) (v := ii_v (g5 t 1)) C iw_X7 rfl (by decide) rfl fn_X8_52 ht rfl dX8_follow_53 ?_
  refine a_top (w := ii_v (f t 1)) (congrArg (fun q => ii_v q) (show g5 t 1 = (f t 1) by rw [eg5, ii_up_o _ _ _ (by omega), eg4, ii_up_o _ _ _ (by omega), eg3, ii_up_o _ _ _ (by omega), eg2, ii_up_o _ _ _ (by omega), eg1, ii_up_o _ _ _ (by omega)])) ?_
  refine a_bipush C dX8_follow_56 (by decide) ?_
  refine a_icmp_le (tgt := 63) C dX8_follow_58 rfl (by unfold ii_B; omega) (by unfold ii_B; omega) (fun h58 => ?_) (fun h58 => ?_)
  · skip
    refine a_iconst C dX8_follow_63 ?_
    refine a_istore (L' := [(0, .ref (ad 11)), (1, .ref (ad o)), (2, .ref (ad t)), (3, ii_v now), (4, ii_v bound), (5, ii_v 0)]) C dX8_follow_64 (by decide) rfl ?_
    have loop66 : ∀ (NN66 : Nat) (k : Nat) (x : Int) (y : Int) (a : Int) (n : Int) (T : List Int) (g : Nat → Nat → Int), S.length - k < NN66 → (k ≤ S.length) → (S.length ≤ 6) → (0 ≤ x ∧ x ≤ 20) → (0 ≤ y ∧ y ≤ 20) → (0 ≤ a ∧ a ≤ 40 * (k : Int)) → (0 - 6 * (k : Int) ≤ n ∧ n ≤ 1000 + 6 * (k : Int)) → (g 11 2 = x) → (g 11 3 = y) → (g 11 4 = a) → (g 11 5 = n) → (g 11 6 = a + pd_d x y (f o 3) (f o 4)) → (T.length = k) → (∀ j, j < k → g 12 j = T.getD j 0) → (∀ j, j < k → -100 ≤ T.getD j 0 ∧ T.getD j 0 ≤ 300000) → (∀ o2, o2 ≠ 11 → o2 ≠ 12 → g o2 = f o2) → (wk_f v S (f o 1) (f o 8) bound (f o 3) (f o 4) now (S.drop k) k x y a n T = wk_f v S (f o 1) (f o 8) bound (f o 3) (f o 4) now S 0 (f o 6) (f o 7) 0 (f o 9) []) → ab_W p l e (ab_rm 8 0 0) s m args below meth c E base 7 (ab_Q below E base Post args s 0 0) ab_x4 ad (g, w) 0 0 66 [(0, .ref (ad 11)), (1, .ref (ad o)), (2, .ref (ad t)), (3, ii_v now), (4, ii_v bound), (5, ii_v ((k : Nat) : Int))] [] := by
      intro NN66
      induction NN66 with
      | zero => intro k x y a n T g hNN; exact absurd hNN (Nat.not_lt_zero _)
      | succ NN66 ih66 =>
        intro k x y a n T g hNN hk hk6 hx hy ha hn hx1 hx2 hx3 hx4 hx5 hTl hTg hTb hfr hE
        have hgo : g o = f o := hfr o (by omega) (by omega)
        have hSg : ts_I g t S := ts_same hS (hfr _ (by omega) (by omega)) (hfr _ (by omega) (by omega))
        have hBg : pb_B g o := by unfold pb_B; rw [hgo]; exact hB
        have hvg : pe_C g v w.2.1 := pe_same hv (fun o2 h => hfr o2 (by omega) (by omega))
        refine a_iload C dX8_follow_66 rfl ?_
        refine a_aload_n C dX8_follow_68 rfl ?_
        refine a_getN (ci := 8) (i := 1) (v := ii_v (g t 1)) C iw_X7 rfl (by decide) rfl fn_X8_52 ht rfl dX8_follow_69 ?_
        rw [hSg.1]
        refine a_icmp_ge (tgt := 131) C dX8_follow_72 rfl (by unfold ii_B; omega) (by unfold ii_B; omega) (fun h72 => ?_) (fun h72 => ?_)
        · skip
          refine a_iconst C dX8_follow_131 ?_
          refine a_iret C ?_ (by decide) (by decide) dX8_follow_132
          rw [hPost]
          refine ab_F_of ⟨fun h => by omega, fun _ => ?_, hfr⟩
          rw [← hE, List.drop_eq_nil_of_le (by omega)]
          exact ⟨rfl, hx5⟩
        · skip
          refine a_aload_n C dX8_follow_75 rfl ?_
          refine a_iload C dX8_follow_76 rfl ?_
          refine a_callVN (o := t) (As := [ii_v ((k : Nat) : Int)]) C (c_stopAtS hl g w ht hta hSg k k rfl (by omega)) co_X7_stopAt in_X7 mn_X8_57 im_X7_stopAt se_X7_stopAt rfl ht ar_X7_stopAt ⟨by decide, by decide, by decide, by decide⟩ rfl (Nat.le_of_ble_eq_true rfl) dX8_follow_78 (a_dR ?_) a_nR
          refine a_istore (L' := [(0, .ref (ad 11)), (1, .ref (ad o)), (2, .ref (ad t)), (3, ii_v now), (4, ii_v bound), (5, ii_v ((k : Nat) : Int)), (6, ii_v (((S.getD k 0) : Nat) : Int))]) C dX8_follow_81 (by decide) rfl ?_
          have q1 := hq k (by omega)
          have qv := hv.1 _ q1
          have qr := hv.2 _ q1
          have q64 := hb k (by omega)
          have hd := pd_b (x := x) (y := y) (u := v 0 (S.getD k 0)) (v := v 1 (S.getD k 0)) (by omega) (by omega) (by omega) (by omega)
          have hd2 := pd_b (x := v 0 (S.getD k 0)) (y := v 1 (S.getD k 0)) (u := f o 3) (v := f o 4) (by omega) (by omega) (by omega) (by omega)
          have hmv := pl_mv_b (v := v) (q := S.getD k 0) (by omega)
          refine a_aload_n C dX8_follow_83 rfl ?_
          refine a_aload_n C dX8_follow_84 rfl ?_
          refine a_iload C dX8_follow_85 rfl ?_
          refine a_callV (o := 11) (As := [.ref (ad o), ii_v (((S.getD k 0) : Nat) : Int)]) C (c_goTo hl g w hr hvg ho hBg (S.getD k 0) (by omega) ⟨by omega, by omega, by omega, by omega⟩) co_X8_goTo in_X8 ml_X8_61 im_X8_goTo se_X8_goTo rfl rfl ar_X8_goTo ⟨by decide, by decide, by decide, by decide⟩ rfl (Nat.le_of_ble_eq_true rfl) dX8_follow_87 (a_dF ?_) a_nF
          intro vg6 g6 hvg6
          obtain ⟨rfl, q2, q3, q4, q5, q6, q7⟩ := hvg6
          rw [hgo, hx1, hx2, hx3] at q6
          rw [hx1, hx2, hx3] at q4
          rw [hx4] at q5
          have hoG : g6 o = f o := (q7 o (by omega)).trans hgo
          have hSG : ts_I g6 t S := ts_same hSg (q7 _ (by omega)) (q7 _ (by omega))
          have hBG : pb_B g6 o := by unfold pb_B; rw [hoG]; exact hB
          have hvG : pe_C g6 v w.2.1 := pe_same hvg (fun o2 h => q7 o2 (by omega))
          have q12 : g6 12 = g 12 := q7 12 (by decide)
          refine a_aload_n C dX8_follow_90 rfl ?_
          refine a_get (ci := 9) (i := 6) (v := ii_v (g6 11 6)) C iw_X8 rfl (by decide) rfl fl_X8_49 rfl rfl dX8_follow_91 ?_
          rw [q6]
          refine a_iload C dX8_follow_94 rfl ?_
          refine a_icmp_ge (tgt := 122) C dX8_follow_96 rfl (by unfold ii_B; omega) (by unfold ii_B; omega) (fun h96 => ?_) (fun h96 => ?_)
          · skip
            refine a_iload C dX8_follow_122 rfl ?_
            refine a_iret C ?_ (by decide) (by decide) dX8_follow_124
            rw [hPost]
            refine ab_F_of ⟨fun h => by omega, fun _ => ?_, fun o2 h h2 => ?_⟩
            · rw [← hE, ls_drop (k := k) (by omega), wk_no (by first | exact Or.inl (by assumption) | exact Or.inr (Or.inl (by omega)) | exact Or.inr (Or.inr (by assumption)))]
              first | exact ⟨rfl, q6⟩ | exact ⟨rfl, (p1 6 (by decide)).trans q6⟩
            · first | exact (p5 o2 h h2).trans ((q7 o2 h).trans (hfr o2 h h2)) | exact (q7 o2 h).trans (hfr o2 h h2)
          · skip
            refine a_aload_n C dX8_follow_99 rfl ?_
            refine a_get (ci := 9) (i := 6) (v := ii_v (g6 11 6)) C iw_X8 rfl (by decide) rfl fl_X8_49 rfl rfl dX8_follow_100 ?_
            rw [q6]
            refine a_aload_n C dX8_follow_103 rfl ?_
            refine a_getN (ci := 2) (i := 8) (v := ii_v (g6 o 8)) C iw_X1 rfl (by decide) rfl fn_X8_65 ho rfl dX8_follow_104 ?_
            rw [hoG]
            refine a_icmp_gt (tgt := 122) C dX8_follow_107 rfl (by unfold ii_B; omega) (by unfold ii_B; omega) (fun h107 => ?_) (fun h107 => ?_)
            · skip
              refine a_iload C dX8_follow_122 rfl ?_
              refine a_iret C ?_ (by decide) (by decide) dX8_follow_124
              rw [hPost]
              refine ab_F_of ⟨fun h => by omega, fun _ => ?_, fun o2 h h2 => ?_⟩
              · rw [← hE, ls_drop (k := k) (by omega), wk_no (by first | exact Or.inl (by assumption) | exact Or.inr (Or.inl (by omega)) | exact Or.inr (Or.inr (by assumption)))]
                first | exact ⟨rfl, q6⟩ | exact ⟨rfl, (p1 6 (by decide)).trans q6⟩
              · first | exact (p5 o2 h h2).trans ((q7 o2 h).trans (hfr o2 h h2)) | exact (q7 o2 h).trans (hfr o2 h h2)
            · skip
              refine a_aload_n C dX8_follow_110 rfl ?_
              refine a_aload_n C dX8_follow_111 rfl ?_
              refine a_aload_n C dX8_follow_112 rfl ?_
              refine a_iload C dX8_follow_113 rfl ?_
              refine a_iload_n C dX8_follow_115 rfl ?_
              refine a_callV (o := 11) (As := [.ref (ad o), .ref (ad t), ii_v ((k : Nat) : Int), ii_v now]) C (c_canMake hl g6 w hr hvG ho hBG ht hta hSG hq k (by omega) now hnow ⟨by omega, by omega, by omega, by omega⟩ (fun j h => by rw [q12, hTg j h]; exact hTb j h) (fun m1 m2 m3 => by have := hpr k (by omega) m3; omega)) co_X8_canMake in_X8 ml_X8_68 im_X8_canMake se_X8_canMake rfl rfl ar_X8_canMake ⟨by decide, by decide, by decide, by decide⟩ rfl (Nat.le_of_ble_eq_true rfl) dX8_follow_116 (a_dF ?_) a_nF
              intro vg7 g7 hvg7
              obtain ⟨hr1, p1, p2, p3, p4, p5⟩ := hvg7
              rw [hoG, q4, q5, wk_cong (tm2 := fun j => T.getD j 0) (fun j hj => by rw [q12]; exact hTg j hj) (hpr k (by omega))] at hr1
              subst hr1
              refine a_bif_ne (tgt := 125) C dX8_follow_119 rfl (fun h119 => ?_) (fun h119 => ?_)
              · skip
                refine a_iinc (L' := [(0, .ref (ad 11)), (1, .ref (ad o)), (2, .ref (ad t)), (3, ii_v now), (4, ii_v bound), (5, ii_v (((k : Nat) : Int) + 1)), (6, ii_v (((S.getD k 0) : Nat) : Int))]) C dX8_follow_125 rfl (by decide) rfl ?_
                refine a_goto (tgt := 66) C dX8_follow_128 rfl ?_
                refine a_pick [0, 1, 2, 3, 4, 5] (L2 := [(0, .ref (ad 11)), (1, .ref (ad o)), (2, .ref (ad t)), (3, ii_v now), (4, ii_v bound), (5, ii_v (((k : Nat) : Int) + 1))]) rfl ?_
                exact ih66 (k + 1) (v 0 (S.getD k 0)) (v 1 (S.getD k 0)) (a + pd_d x y (v 0 (S.getD k 0)) (v 1 (S.getD k 0))) (n + pl_mv v (S.getD k 0)) (T ++ [now + (a + pd_d x y (v 0 (S.getD k 0)) (v 1 (S.getD k 0)))]) g7 (by omega) (by omega) hk6 qv.2.2.1 qv.2.2.2 (by omega) (by omega) (by rw [p1 2 (by decide)]; exact q2) (by rw [p1 3 (by decide)]; exact q3) (by rw [p1 4 (by decide)]; exact q4) (by rw [p2, q5]) (by rw [p1 6 (by decide)]; exact q6) (by rw [List.length_append, hTl]; rfl) (lt_s (fun j h => by rw [p4 j (by omega), q12, hTg j h, gd_app_l (by omega)]) (by rw [p3, q4, gd_app_r (by omega), hTl, Nat.sub_self]; rfl)) (lt_s (fun j h => by rw [gd_app_l (by omega)]; exact hTb j h) (by rw [gd_app_r (by omega), hTl, Nat.sub_self]; show -100 ≤ now + _ ∧ now + _ ≤ 300000; omega)) (fun o2 h h2 => (p5 o2 h h2).trans ((q7 o2 h).trans (hfr o2 h h2))) (by rw [← hE, ls_drop (k := k) (by omega)]; exact (wk_go (by omega) (by omega) h119).symm)
              · skip
                refine a_iload C dX8_follow_122 rfl ?_
                refine a_iret C ?_ (by decide) (by decide) dX8_follow_124
                rw [hPost]
                refine ab_F_of ⟨fun h => by omega, fun _ => ?_, fun o2 h h2 => ?_⟩
                · rw [← hE, ls_drop (k := k) (by omega), wk_no (by first | exact Or.inl (by assumption) | exact Or.inr (Or.inl (by omega)) | exact Or.inr (Or.inr (by assumption)))]
                  first | exact ⟨rfl, q6⟩ | exact ⟨rfl, (p1 6 (by decide)).trans q6⟩
                · first | exact (p5 o2 h h2).trans ((q7 o2 h).trans (hfr o2 h h2)) | exact (q7 o2 h).trans (hfr o2 h h2)
    exact loop66 (_ + 1) 0 (f o 6) (f o 7) 0 (f o 9) ([] : List Int) g5 (Nat.lt_succ_self _) (Nat.zero_le _) (by omega) hB6 hB7 (by omega) (by omega) (by rw [eg5, ii_up_k _ _ (by first | decide | omega), eg4, ii_up_k _ _ (by first | decide | omega), eg3, ii_up_k _ _ (by first | decide | omega), eg2, ii_up_k _ _ (by first | decide | omega), eg1, ii_up_s]) (by rw [eg5, ii_up_k _ _ (by first | decide | omega), eg4, ii_up_k _ _ (by first | decide | omega), eg3, ii_up_k _ _ (by first | decide | omega), eg2, ii_up_s]) (by rw [eg5, ii_up_k _ _ (by first | decide | omega), eg4, ii_up_k _ _ (by first | decide | omega), eg3, ii_up_s]) (by rw [eg5, ii_up_k _ _ (by first | decide | omega), eg4, ii_up_s]) (by rw [Int.zero_add]; exact (by rw [eg5, ii_up_s])) rfl (fun j h => absurd h (Nat.not_lt_zero j)) (fun j h => absurd h (Nat.not_lt_zero j)) (fun o2 h h2 => by rw [eg5, ii_up_row _ _ h, eg4, ii_up_row _ _ h, eg3, ii_up_row _ _ h, eg2, ii_up_row _ _ h, eg1, ii_up_row _ _ h]) rfl
  · skip
    refine a_iconst C dX8_follow_61 ?_
    refine a_iret C ?_ (by decide) (by decide) dX8_follow_62
    rw [hPost]
    refine ab_F_of ⟨fun _ => rfl, fun h => by omega, fun o2 h h2 => ?_⟩
    rw [eg5, ii_up_row _ _ h, eg4, ii_up_row _ _ h, eg3, ii_up_row _ _ h, eg2, ii_up_row _ _ h, eg1, ii_up_row _ _ h]
