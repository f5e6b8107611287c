/-! More calls on both sides. -/
section SET
variable {f g a : Nat → Nat → Int} {TS : Nat → List Nat} {nb nr : Nat} {tm : Int}
theorem bs_0 {a2 : Nat → Nat → Int} {tm2 : Int} (h : BS a TS nb nr tm) (hrow : ∀ o, o ≠ 0 → a2 o = a o) (h6 : a 0 6 ≤ a2 0 6 ∧ a2 0 6 ≤ tm2) (h7 : 0 ≤ a2 0 7 ∧ a2 0 7 ≤ 200) (h8 : 0 ≤ a2 0 8 ∧ a2 0 8 ≤ 60) : BS a2 TS nb nr tm2 := by
  obtain ⟨h4, h30, h6', -, -, hbu, hrq, htr, hob, ne, hjo, hsl⟩ := h
  have hv : vC a2 = vC a := vC_rows (fun o ho => hrow o (by omega))
  refine ⟨h4, h30, by omega, h7, h8, fun c hc => ?_, fun r hr => ?_, fun c hc => ?_, fun c hc => ?_, ne, ⟨?_, fun k hk => ?_, fun r hr => ?_, fun c hc => ?_⟩, hsl⟩
  · unfold bu
    rw [hrow (200 + c) (by omega)]
    exact hbu c hc
  · obtain ⟨r0, r1, r2, r3, r4, r5, r6, r7, r8, r9, r10, r11, r12⟩ := hrq r hr
    unfold rq
    rw [hrow (300 + r) (by omega)]
    exact ⟨r0, r1, r2, r3, r4, r5, r6, r7, r8, r9, r10, by omega, by omega⟩
  · obtain ⟨t1, t2, t3⟩ := htr c hc
    refine ⟨t1, t2, fun q => ?_⟩
    rw [hrow (300 + q / 2) (by omega)]
    exact t3 q
  · rw [hrow (200 + c) (by omega), hob c hc]
    exact (ob_cg (fun k _ => by rw [hrow (300 + k) (by omega)]; exact ⟨Iff.rfl, rfl⟩) nr (Nat.le_refl _)).symm
  · rw [hrow 4 (by omega)]; exact hjo.1
  · rw [hrow 5 (by omega), hrow 6 (by omega)]; exact hjo.2.1 k hk
  · rw [hrow (300 + r) (by omega), hrow 6 (by omega)]; exact hjo.2.2.1 r hr
  · rw [hv, hrow (200 + c) (by omega), jd_cg (a := a) (v := vC a) ne (fun i _ => by rw [hrow 5 (by omega), hrow 6 (by omega), hrow 8 (by omega)]; exact ⟨rfl, rfl, rfl, rfl⟩)]
    exact hjo.2.2.2 c hc
theorem st_set {i : Nat} {u : Int} (h : ST a TS nb nr tm) (hi : (i = 7 ∧ 0 ≤ u ∧ u ≤ 200) ∨ (i = 8 ∧ 0 ≤ u ∧ u ≤ 60)) : ST (ii_up a 0 i u) TS nb nr (tm + 60) := by
  have h6 : ii_up a 0 i u 0 6 = a 0 6 := ii_up_k _ _ (by omega)
  have hB := h.1
  refine ⟨bs_0 hB (fun o ho => ii_up_row _ _ ho) ?_ ?_ ?_, fun b hb => ?_⟩
  · rw [h6]
    have := hB.2.2.1
    omega
  · rcases hi with ⟨rfl, hi⟩ | ⟨rfl, hi⟩
    · rw [ii_up_s]; exact hi
    · rw [ii_up_k _ _ (by decide)]; exact hB.2.2.2.1
  · rcases hi with ⟨rfl, hi⟩ | ⟨rfl, hi⟩
    · rw [ii_up_k _ _ (by decide)]; exact hB.2.2.2.2.1
    · rw [ii_up_s]; exact hi
  · rw [h6]
    exact pb_row (vC_rows (fun o ho => ii_up_row _ _ (by omega))) (ii_up_row _ _ (by omega)) (h.2 b hb)
theorem CL_0 {i : Nat} {u : Int} (h : CL f a TS nb nr) : CL (ii_up f 0 i u) (ii_up a 0 i u) TS nb nr := by
  obtain ⟨h1, h2, h3⟩ := h
  exact ⟨fun o ho => up_cong (h1 o ho), fun b hb => ts_same (h2 b hb) (ii_up_row _ _ (by omega)) (ii_up_row _ _ (by omega)), by rw [ii_up_row _ _ (by omega)]; exact h3⟩
theorem ML_set {i j : Nat} {u : Int} (h : ML g a TS nb nr) (hi : (i = 7 ∧ j = 33) ∨ (i = 8 ∧ j = 34)) : ML (ii_up g 40 j u) (ii_up a 0 i u) TS nb nr := by
  obtain ⟨hR, hT, hF⟩ := h
  have hm : ∀ o, o ≠ 40 → ii_up g 40 j u o = g o := fun o ho => ii_up_row _ _ ho
  have hrow : ∀ o, o ≠ 0 → ii_up a 0 i u o = a o := fun o ho => ii_up_row _ _ ho
  refine ⟨?_, fun b hb => ?_, fun b hb hb4 => by rw [hm 51 (by decide)]; exact hF b hb hb4⟩
  · obtain ⟨⟨m29, m30, m31, m32, m33, m34⟩, hbus, hfr, hreq, hfrq, h60, hent⟩ := hR
    refine ⟨⟨?_, ?_, ?_, ?_, ?_, ?_⟩, fun c hc => ?_, fun c hc hc4 => ?_, fun r hr => ?_, fun r hr hr30 => ?_, fun r hr => ?_, fun k hk => ?_⟩
    · rw [ii_up_k _ _ (by omega)]; exact m29
    · rw [ii_up_k _ _ (by omega)]; exact m30
    · rw [ii_up_k _ _ (by omega), hrow 4 (by decide)]; exact m31
    · rw [ii_up_k _ _ (by omega), ii_up_k _ _ (by omega)]; exact m32
    · rcases hi with ⟨rfl, rfl⟩ | ⟨rfl, rfl⟩
      · rw [ii_up_s, ii_up_s]
      · rw [ii_up_k _ _ (by decide), ii_up_k _ _ (by decide)]; exact m33
    · rcases hi with ⟨rfl, rfl⟩ | ⟨rfl, rfl⟩
      · rw [ii_up_k _ _ (by decide), ii_up_k _ _ (by decide)]; exact m34
      · rw [ii_up_s, ii_up_s]
    · rw [hm 41 (by decide), hm 42 (by decide), hm 43 (by decide), hm 44 (by decide), hm 45 (by decide), hm 46 (by decide), hm 47 (by decide), hm 48 (by decide), hm 49 (by decide), hm 50 (by decide), hrow (200 + c) (by omega)]
      exact hbus c hc
    · rw [hm 48 (by decide), hm 49 (by decide), hm 50 (by decide)]
      exact hfr c hc hc4
    · rw [hm 53 (by decide), hm 54 (by decide), hm 55 (by decide), hm 56 (by decide), hm 57 (by decide), hm 58 (by decide), hm 59 (by decide), hm 60 (by decide), hm 61 (by decide), hm 62 (by decide), hm 63 (by decide), hm 64 (by decide), hrow (300 + r) (by omega)]
      exact hreq r hr
    · rw [hm 53 (by decide), hm 54 (by decide), hm 55 (by decide), hm 56 (by decide), hm 57 (by decide), hm 58 (by decide), hm 59 (by decide), hm 61 (by decide), hm 62 (by decide)]
      exact hfrq r hr hr30
    · rw [hm 60 (by decide)]
      exact h60 r hr
    · rw [hrow 4 (by decide)] at hk
      rw [hm 65 (by decide), hm 66 (by decide), hm 67 (by decide), hm 68 (by decide), hrow 5 (by decide), hrow 6 (by decide), hrow 7 (by decide), hrow 8 (by decide)]
      exact hent k hk
  · have := hT b hb
    unfold mt_I at this ⊢
    rw [hm 51 (by decide), hm 52 (by decide)]
    exact this
end SET
section QU
variable {f g a : Nat → Nat → Int} {TS : Nat → List Nat} {nb nr : Nat} {tm x y u z m : Int}
theorem wc_1 (h : ¬ (((0 ≤ x ∧ x ≤ 20) ∧ (0 ≤ y ∧ y ≤ 20)) ∧ ((0 ≤ u ∧ u ≤ 20) ∧ (0 ≤ z ∧ z ≤ 20)) ∧ 1 ≤ m ∧ m ≤ 6)) : wc_f x y u z m = 1 := if_neg h
theorem wc_2 (h : (((0 ≤ x ∧ x ≤ 20) ∧ (0 ≤ y ∧ y ≤ 20)) ∧ ((0 ≤ u ∧ u ≤ 20) ∧ (0 ≤ z ∧ z ≤ 20)) ∧ 1 ≤ m ∧ m ≤ 6)) (h2 : x = u ∧ y = z) : wc_f x y u z m = 2 := by
  unfold wc_f
  rw [if_pos h, if_pos h2]
theorem wi_ok (h : (((0 ≤ x ∧ x ≤ 20) ∧ (0 ≤ y ∧ y ≤ 20)) ∧ ((0 ≤ u ∧ u ≤ 20) ∧ (0 ≤ z ∧ z ≤ 20)) ∧ 1 ≤ m ∧ m ≤ 6)) (hd : 0 ≤ f 0 7 ∧ f 0 7 ≤ 200) : 0 ≤ pd_d x y u z * (100 + f 0 7) / 100 ∧ pd_d x y u z * (100 + f 0 7) / 100 ≤ 120 := by
  have hp := pd_b h.1.1 h.1.2 h.2.1.1 h.2.1.2
  have hm : 0 ≤ pd_d x y u z * (100 + f 0 7) ∧ pd_d x y u z * (100 + f 0 7) ≤ 40 * 300 := ⟨Int.mul_nonneg (by omega) (by omega), Int.mul_le_mul (by omega) (by omega) (by omega) (by omega)⟩
  omega
/-- a wish taken in leaves the rest -/
theorem q_wi (hC : CL f a TS nb nr) (hB : BS a TS nb nr tm) (htm : tm ≤ 90000) (h : (((0 ≤ x ∧ x ≤ 20) ∧ (0 ≤ y ∧ y ≤ 20)) ∧ ((0 ≤ u ∧ u ≤ 20) ∧ (0 ≤ z ∧ z ≤ 20)) ∧ 1 ≤ m ∧ m ≤ 6)) {g2 : Nat → Nat → Int} (hg : ∀ o2, o2 ≠ 10 → o2 ≠ 11 → o2 ≠ 12 → o2 ≠ 13 → o2 ≠ 14 → o2 ≠ 24 → g2 o2 = (wi_T f nr x y u z m) o2) : CL g2 a TS nb nr ∧ kM f g2 := by
  have h4 := hB.1
  have h30 := hB.2.1
  have e0 := hC.1 0 (by omega)
  have hb6 := hB.2.2.1
  have hb8 := hB.2.2.2.2.1
  have hrow : ∀ o, o ≠ 10 → o ≠ 11 → o ≠ 12 → o ≠ 13 → o ≠ 14 → o ≠ 24 → o ≠ 300 + nr → g2 o = f o := fun o h1 h2 h3 h4 h5 h6 h7 => (hg o h1 h2 h3 h4 h5 h6).trans (wi_row h7)
  obtain ⟨h1, h2, w0, w4, w6, w7, w8, w9, w10, w11, w12⟩ := hC
  obtain ⟨a0, a1, a2, a3, a4, a5, a6, a7, a8⟩ := wi_at (f := f) (nr := nr) (x := x) (y := y) (u := u) (z := z) (n := m)
  have hw := hg (300 + nr) (by omega) (by omega) (by omega) (by omega) (by omega) (by omega)
  have hok := wi_ok h (f := f) (by rw [e0]; exact hB.2.2.2.1)
  refine ⟨⟨fun o ho => ?_, fun b hb => ts_same (h2 b hb) (hrow _ (by omega) (by omega) (by omega) (by omega) (by omega) (by omega) (by omega)) (hrow _ (by omega) (by omega) (by omega) (by omega) (by omega) (by omega) (by omega)), ?_⟩, fun o ho1 ho2 => hrow o (by omega) (by omega) (by omega) (by omega) (by omega) (by omega) (by omega)⟩
  · rw [hrow o (by omega) (by omega) (by omega) (by omega) (by omega) (by omega) (by omega)]
    exact h1 o ho
  · rw [hw, a4, a6, a7, a8 8 (by decide), a8 9 (by decide), a8 10 (by decide), a8 11 (by decide), a8 12 (by decide), e0]
    rw [e0] at hok
    refine ⟨fun i hi => ?_, by omega, by omega, by omega, w8, w9, w10, w11, w12⟩
    rcases (show i = 0 ∨ i = 1 ∨ i = 2 ∨ i = 3 by omega) with rfl | rfl | rfl | rfl
    · rw [a0]; exact h.1.1
    · rw [a1]; exact h.1.2
    · rw [a2]; exact h.2.1.1
    · rw [a3]; exact h.2.1.2
theorem q_pn (hC : CL f a TS nb nr) (hS : ST a TS nb nr tm) (htm : tm ≤ 90000) (h : (((0 ≤ x ∧ x ≤ 20) ∧ (0 ≤ y ∧ y ≤ 20)) ∧ ((0 ≤ u ∧ u ≤ 20) ∧ (0 ≤ z ∧ z ≤ 20)) ∧ 1 ≤ m ∧ m ≤ 6)) {lp lr : Int} {b : Nat} (hb : b < nb) : pn (vw_f (vC f) nr x y u z m lp lr) (f (200 + b)) (TS b) nr nr := by
  have hB := hS.1
  have hpe := cl_pe hC hB (by omega)
  have htr := hB.2.2.2.2.2.2.2.1 b hb
  obtain ⟨-, u1, -, u3, u4, u6, u7, -⟩ := hB.2.2.2.2.2.1 b hb
  have h9 := bs_9 hB hb
  rw [cl_bus hC hb]
  refine ⟨fun q hq => ?_, fun r hr => ?_, Nat.le_refl _, fun j hj => Nat.le_of_lt (tr_q hB hb j hj), htr.2.1, fun hz => ?_, fun hz => ?_, h9.2, u3, u4, u6, u7⟩
  · rw [vw_0, vw_1]
    by_cases e : q / 2 = nr
    · rw [if_pos e, if_pos e]
      split
      · exact ⟨h.1.1, h.1.2⟩
      · exact ⟨h.2.1.1, h.2.1.2⟩
    · rw [if_neg e, if_neg e]
      exact (hpe.1 q hq).2.2
  · rw [vw_2]
    split
    · omega
    · exact (hpe.2 r hr).2.2.2.2.1.1
  · have := tr_R htr _ hz
    omega
  · have := tr_R htr _ hz
    omega
/-- the class's searches, wherever they began -/
theorem q_cl (hC : CL f a TS nb nr) (hS : ST a TS nb nr tm) (htm : tm ≤ 90000) (h : (((0 ≤ x ∧ x ≤ 20) ∧ (0 ≤ y ∧ y ≤ 20)) ∧ ((0 ≤ u ∧ u ≤ 20) ∧ (0 ≤ z ∧ z ≤ 20)) ∧ 1 ≤ m ∧ m ≤ 6)) (c4 c5 : Int) {lp lr now : Int} :
    ((pe_b (vw_f (vC f) nr x y u z m lp lr) (fun b => f (200 + b)) TS nr now nb (-1, c4, c5, 1000000)).1 = (pa_b (vw_f (vC f) nr x y u z m lp lr) (fun b => f (200 + b)) TS nr now nb (-1, 0, 0, 1000000, 1)).1 ∧ (pe_b (vw_f (vC f) nr x y u z m lp lr) (fun b => f (200 + b)) TS nr now nb (-1, c4, c5, 1000000)).2.2.2 = (pa_b (vw_f (vC f) nr x y u z m lp lr) (fun b => f (200 + b)) TS nr now nb (-1, 0, 0, 1000000, 1)).2.2.2.1) ∧
    pz (pa_b (vw_f (vC f) nr x y u z m lp lr) (fun b => f (200 + b)) TS nr now nb (-1, c4, c5, 1000000, 1)) (pa_b (vw_f (vC f) nr x y u z m lp lr) (fun b => f (200 + b)) TS nr now nb (-1, 0, 0, 1000000, 1)) := by
  have h1 := pq_b (v := vw_f (vC f) nr x y u z m lp lr) (B := fun b => f (200 + b)) (TS := TS) (r := nr) (nr := nr) (now := now) nb (fun b hb => q_pn hC hS htm h hb) (pq_0 c4 c5)
  have h2 := pz_b (v := vw_f (vC f) nr x y u z m lp lr) (B := fun b => f (200 + b)) (TS := TS) (r := nr) (now := now) (pz_0 c4 c5 0 0) nb
  exact ⟨⟨h1.1.trans h2.1, h1.2.2.2.1.trans h2.2.1⟩, h2⟩
theorem cg_fm (hC : CL f a TS nb nr) (hL : ML g a TS nb nr) : cg (vC f) (vM g) (fun r => r < nr) := by
  have h1 := cl_cg hC
  have h2 := mr_cg hL.1
  refine ⟨fun q hq => ?_, fun r hr => ?_⟩
  · rw [(h1.1 q hq).1, (h1.1 q hq).2]
    exact h2.1 q hq
  · obtain ⟨e2, e3, e4, e5⟩ := h1.2 r hr
    rw [e2, e3, e4, e5]
    exact h2.2 r hr
theorem q_bq (hC : CL f a TS nb nr) (hL : ML g a TS nb nr) (hB : BS a TS nb nr tm) {b : Nat} (hb : b < nb) : bq (f (200 + b)) (mB g nr b) := by
  rw [cl_bus hC hb]
  exact mr_bq hL.1 hB hb
/-- the model's search at 30 -/
theorem q_ml (hC : CL f a TS nb nr) (hL : ML g a TS nb nr) (hS : ST a TS nb nr tm) : pa_b (vw_f (vM g) 30 x y u z m (g 40 32 + g 40 34) (pd_d x y u z * (100 + g 40 33) / 100)) (mB g nr) TS 30 (g 40 32) nb (-1, 0, 0, 1000000, 1) = pa_b (vw_f (vC f) nr x y u z m (f 0 6 + f 0 8) (pd_d x y u z * (100 + f 0 7) / 100)) (fun b => f (200 + b)) TS nr (f 0 6) nb (-1, 0, 0, 1000000, 1) := by
  have hB := hS.1
  have h30 := hB.2.1
  have e0 := hC.1 0 (by omega)
  have h5 : vM g 5 30 = vC f 5 nr := by
    show g 61 30 = f (300 + nr) 11
    rw [(hL.1.2.2.2.2.1 30 h30 (Nat.le_refl _)).1, hC.2.2.2.2.2.2.2.2.2.1]
  have hh := rn_b (vw_rn (x := x) (y := y) (u := u) (z := z) (n := m) (lp := f 0 6 + f 0 8) (lr := pd_d x y u z * (100 + f 0 7) / 100) h30 (cg_fm hC hL) h5) (B := fun b => f (200 + b)) (B' := mB g nr) (TS := TS) (r := nr) (Nat.le_refl nr) (now := f 0 6) (s := (-1, 0, 0, 1000000, 1)) nb (fun b hb => ⟨q_bq hC hL hB hb, fun q hq => Nat.le_of_lt (tr_R (hB.2.2.2.2.2.2.2.1 b hb) q hq), fun q hq => if_neg (by have := tr_R (hB.2.2.2.2.2.2.2.1 b hb) q hq; omega)⟩)
  rw [if_pos rfl] at hh
  rw [hL.1.1.2.2.2.1, hL.1.1.2.2.2.2.1, hL.1.1.2.2.2.2.2, ← e0]
  exact hh
theorem q_T (hL : ML g a TS nb nr) (hS : ST a TS nb nr tm) : ∀ b, b < nb → pk_B g b ∧ mt_I g b (TS b) ∧ (TS b).length ≤ 6 ∧ ∀ j, j < (TS b).length → (TS b).getD j 0 / 2 ≤ 30 := fun b hb => by
  have hpb := hS.2 b hb
  have h30 := hS.1.2.1
  exact ⟨mr_pk hL.1 hS.1 hb hpb.1, hL.2.1 b hb, (fault_c.mp hpb.1).1, fun j hj => by have := tr_q hS.1 hb j hj; omega⟩
/-- the model's trial row -/
theorem q_mF {h v : Nat → Nat → Int} (hL : ML g a TS nb nr) (h30 : nr ≤ 30) (hp : pj_C h v) (hF : mq_F g h) : ML h a TS nb nr ∧ kC g h := by
  obtain ⟨hR, hT, hF2⟩ := hL
  obtain ⟨f1, f2, f3⟩ := hF
  refine ⟨⟨?_, fun b hb => ?_, fun b hb hb4 => by rw [f2 51 (by decide) (by decide) (by decide) (by decide)]; exact hF2 b hb hb4⟩, fun o ho => f2 o (by omega) (by omega) (by omega) (by omega)⟩
  · obtain ⟨hsc, hbus, hfr, hreq, hfrq, h60, hent⟩ := hR
    have hr2 : ∀ o, 41 ≤ o → o ≤ 68 → (o < 53 ∨ 59 < o) → h o = g o := fun o h1 h2 h3 => f2 o (by omega) (by omega) (by omega) h3
    refine ⟨?_, fun c hc => ?_, fun c hc hc4 => ?_, fun r hr => ?_, fun r hr hr30 => ?_, fun r hr => ?_, fun k hk => ?_⟩
    · rw [f3 29 (by decide) (by decide), f3 30 (by decide) (by decide), f3 31 (by decide) (by decide), f3 32 (by decide) (by decide), f3 33 (by decide) (by decide), f3 34 (by decide) (by decide)]
      exact hsc
    · rw [hr2 41 (by decide) (by decide) (by decide), hr2 42 (by decide) (by decide) (by decide), hr2 43 (by decide) (by decide) (by decide), hr2 44 (by decide) (by decide) (by decide), hr2 45 (by decide) (by decide) (by decide), hr2 46 (by decide) (by decide) (by decide), hr2 47 (by decide) (by decide) (by decide), hr2 48 (by decide) (by decide) (by decide), hr2 49 (by decide) (by decide) (by decide), hr2 50 (by decide) (by decide) (by decide)]
      exact hbus c hc
    · rw [hr2 48 (by decide) (by decide) (by decide), hr2 49 (by decide) (by decide) (by decide), hr2 50 (by decide) (by decide) (by decide)]
      exact hfr c hc hc4
    · have hne : r ≠ 30 := by omega
      rw [f1 53 r (by decide) (by decide) (by decide) hne, f1 54 r (by decide) (by decide) (by decide) hne, f1 55 r (by decide) (by decide) (by decide) hne, f1 56 r (by decide) (by decide) (by decide) hne, f1 57 r (by decide) (by decide) (by decide) hne, f1 58 r (by decide) (by decide) (by decide) hne, f1 59 r (by decide) (by decide) (by decide) hne, hr2 60 (by decide) (by decide) (by decide), hr2 61 (by decide) (by decide) (by decide), hr2 62 (by decide) (by decide) (by decide), hr2 63 (by decide) (by decide) (by decide), hr2 64 (by decide) (by decide) (by decide)]
      exact hreq r hr
    · obtain ⟨z61, z62, -⟩ := hfrq r hr hr30
      have p0 := hp.1 (2 * r) (by omega)
      have p1 := hp.1 (2 * r + 1) (by omega)
      have p2 := hp.2 r hr30
      unfold pj_x pj_y at p0 p1
      rw [if_pos (by omega), if_pos (by omega), show 2 * r / 2 = r by omega] at p0
      rw [if_neg (by omega), if_neg (by omega), show (2 * r + 1) / 2 = r by omega] at p1
      rw [hr2 61 (by decide) (by decide) (by decide), hr2 62 (by decide) (by decide) (by decide)]
      omega
    · rw [hr2 60 (by decide) (by decide) (by decide)]
      exact h60 r hr
    · rw [hr2 65 (by decide) (by decide) (by decide), hr2 66 (by decide) (by decide) (by decide), hr2 67 (by decide) (by decide) (by decide), hr2 68 (by decide) (by decide) (by decide)]
      exact hent k hk
  · have := hT b hb
    unfold mt_I at this ⊢
    rw [f2 51 (by decide) (by decide) (by decide) (by decide), f2 52 (by decide) (by decide) (by decide) (by decide)]
    exact this
end QU
theorem z_pickupTime {l : Launch} {E : ab_E} {base : Nat} (hl : l.stackTraces = false) {ad : Nat → Nat} {f a : Nat → Nat → Int} {TS : Nat → List Nat} {nb nr : Nat} {tm : Int} {ol : Int64 × UInt64} (hI : IS f a TS nb nr tm) (i : Int) (zi : -2147483648 ≤ i ∧ i < 2147483648) : ZZ l E base yX9_pickupTime cX9_pickupTime 3 (some .int) yX10_pickupTime cX10_pickupTime 2 (some .int) ad f a TS nb nr tm ol [ii_v i] ["java/lang/IndexOutOfBoundsException", "java/lang/IllegalStateException"] := by
  obtain ⟨hC, hL, hS, htm⟩ := hI
  have hB := hS.1
  have h4 := hB.1
  have h30 := hB.2.1
  have h06 := hB.2.2.1
  by_cases hi : 0 ≤ i ∧ i < (nr : Int)
  · obtain ⟨r, rfl⟩ : ∃ r : Nat, i = (r : Int) := ⟨i.toNat, by omega⟩
    have hr : r < nr := by omega
    have hq := hB.2.2.2.2.2.2.1 r hr
    have hfr := cl_req hC hr
    by_cases hx : a (300 + r) 8 = 120 ∨ a (300 + r) 8 = 99
    · refine ⟨2, 0, 0, a, TS, nb, nr, st_60 hS, fun _ => rfl, by decide, cz_T (x2_pickupTime hl f (nb, nr, ol) h30 r hr (by rw [hfr]; exact hq.1) (by rw [hfr]; exact hx)) (by decide) hC, fun ad1 g ol2 hC2 hL2 => ?_⟩
      have h30b := hL2.1.1.2.1
      obtain ⟨⟨m0, m1, m2, m3, m4, m5, m6⟩, ⟨m8, m11, m12⟩, m10, m9⟩ := hL2.1.2.2.2.1 r hr
      exact mz_R (n2_pickupTime hl g (nb, nr, ol2) r (by rw [h30b]; omega) (by rw [h30b]; omega) (by rw [m8]; exact hq.1) (by rw [m8]; exact hx)) (by decide) hL2
    by_cases hw : a (300 + r) 8 = 119
    · obtain ⟨b, hb, hbq⟩ := hq.2.2.2.2.2.2.2.2.2.2.1 (by omega)
      have hpb := hS.2 b hb
      have htr := hB.2.2.2.2.2.2.2.1 b hb
      have hRb := tr_R htr
      have hmem : 2 * r ∈ TS b := (htr.2.2 _).mpr (by rw [show (2 * r) / 2 = r by omega]; exact ⟨hr, hbq, Or.inl hw⟩)
      refine ⟨0, ((pl_tm (vC a) (TS b) (a (200 + b) 6) (a (200 + b) 7) (a 0 6)).getD ((TS b).idxOf (2 * r)) 0), ((pl_tm (vC a) (TS b) (a (200 + b) 6) (a (200 + b) 7) (a 0 6)).getD ((TS b).idxOf (2 * r)) 0), a, TS, nb, nr, st_60 hS, fun _ => rfl, by decide, cz_S (u := ((pl_tm (vC a) (TS b) (a (200 + b) 6) (a (200 + b) 7) (a 0 6)).getD ((TS b).idxOf (2 * r)) 0)) (c_pickupTime hl f (nb, nr, ol) h30 (cl_pe hC hB (by omega)) r hr (by rw [hfr]; exact hq.1) (by rw [hfr]; exact hw) hb h4 (by rw [hfr]; exact hbq) (cl_pb hC hB hb (ch_0 hpb.1)) (hC.2.1 b hb) (fun j hj => Nat.le_of_lt (tr_q hB hb j hj)) (by rw [hC.1 0 (by omega)]; omega) hmem) (by decide) hC (fun ov g hP => ⟨by rw [hP.1, cl_bus hC hb, hC.1 0 (by omega), cg_tm (cl_cg hC) hRb], fun o h1 => hP.2 o (by omega)⟩), fun ad1 g ol2 hC2 hL2 => ?_⟩
      have h30b := hL2.1.1.2.1
      obtain ⟨⟨m0, m1, m2, m3, m4, m5, m6⟩, ⟨m8, m11, m12⟩, m10, m9⟩ := hL2.1.2.2.2.1 r hr
      have hm2 := hL2.1.2.1 b hb
      refine mz_L (u := ((pl_tm (vC a) (TS b) (a (200 + b) 6) (a (200 + b) 7) (a 0 6)).getD ((TS b).idxOf (2 * r)) 0)) (m_pickupTime hl g (nb, nr, ol2) r (by rw [h30b]; omega) (by rw [h30b]; omega) (by rw [m8]; exact hq.1) (by rw [m8]; exact hw) b (by omega) (mr_pj hL2.1 hB (by omega)) (mr_pk hL2.1 hB hb hpb.1) (hL2.2.1 b hb) (fault_c.mp hpb.1).1 (fun j hj => by have := tr_q hB hb j hj; omega) (by rw [hL2.1.1.2.2.2.1]; omega) htr.1 hmem (by rw [m10 (by omega)]; exact hbq)) (by decide) hL2 (fun ov h hP => ⟨?_, hP.2.1, hP.2.2⟩)
      rw [hP.1, hm2.2.2.2.1, hm2.2.2.2.2.1, hL2.1.1.2.2.2.1, cg_tm (mr_cg hL2.1) hRb]
    · refine ⟨0, (a (300 + r) 11), (a (300 + r) 11), a, TS, nb, nr, st_60 hS, fun _ => rfl, by decide, cz_R (u := (a (300 + r) 11)) (by have hh := c_pickupTime2 (E := E) (base := base) (ad := ad) hl f (nb, nr, ol) h30 r hr (by rw [hfr]; exact hq.1) (by rw [hfr]; omega) (by rw [hfr]; exact hw); rw [hfr] at hh; exact hh) (by decide) hC, fun ad1 g ol2 hC2 hL2 => ?_⟩
      have h30b := hL2.1.1.2.1
      obtain ⟨⟨m0, m1, m2, m3, m4, m5, m6⟩, ⟨m8, m11, m12⟩, m10, m9⟩ := hL2.1.2.2.2.1 r hr
      have hh := m_pickupTime2 (E := E) (base := base) (ad := ad1) hl g (nb, nr, ol2) r (by rw [h30b]; omega) (by rw [h30b]; omega) (by rw [m8]; exact hq.1) (by rw [m8]; omega)
      rw [m11] at hh
      exact mz_R hh (by decide) hL2
  · refine ⟨1, 0, 0, a, TS, nb, nr, st_60 hS, fun _ => rfl, by decide, cz_T (x_pickupTime hl f (nb, nr, ol) h30 i zi (by dsimp only; omega)) (by decide) hC, fun ad1 g ol2 hC2 hL2 => ?_⟩
    have h30b := hL2.1.1.2.1
    exact mz_R (n_pickupTime hl g (nb, nr, ol2) i zi (by rw [h30b]; omega) (by rw [h30b]; omega)) (by decide) hL2
theorem z_dropTime {l : Launch} {E : ab_E} {base : Nat} (hl : l.stackTraces = false) {ad : Nat → Nat} {f a : Nat → Nat → Int} {TS : Nat → List Nat} {nb nr : Nat} {tm : Int} {ol : Int64 × UInt64} (hI : IS f a TS nb nr tm) (i : Int) (zi : -2147483648 ≤ i ∧ i < 2147483648) : ZZ l E base yX9_dropTime cX9_dropTime 3 (some .int) yX10_dropTime cX10_dropTime 2 (some .int) ad f a TS nb nr tm ol [ii_v i] ["java/lang/IndexOutOfBoundsException", "java/lang/IllegalStateException"] := by
  obtain ⟨hC, hL, hS, htm⟩ := hI
  have hB := hS.1
  have h4 := hB.1
  have h30 := hB.2.1
  have h06 := hB.2.2.1
  by_cases hi : 0 ≤ i ∧ i < (nr : Int)
  · obtain ⟨r, rfl⟩ : ∃ r : Nat, i = (r : Int) := ⟨i.toNat, by omega⟩
    have hr : r < nr := by omega
    have hq := hB.2.2.2.2.2.2.1 r hr
    have hfr := cl_req hC hr
    by_cases hx : a (300 + r) 8 = 120 ∨ a (300 + r) 8 = 99
    · refine ⟨2, 0, 0, a, TS, nb, nr, st_60 hS, fun _ => rfl, by decide, cz_T (x2_dropTime hl f (nb, nr, ol) h30 r hr (by rw [hfr]; exact hq.1) (by rw [hfr]; exact hx)) (by decide) hC, fun ad1 g ol2 hC2 hL2 => ?_⟩
      have h30b := hL2.1.1.2.1
      obtain ⟨⟨m0, m1, m2, m3, m4, m5, m6⟩, ⟨m8, m11, m12⟩, m10, m9⟩ := hL2.1.2.2.2.1 r hr
      exact mz_R (n2_dropTime hl g (nb, nr, ol2) r (by rw [h30b]; omega) (by rw [h30b]; omega) (by rw [m8]; exact hq.1) (by rw [m8]; exact hx)) (by decide) hL2
    by_cases hw : a (300 + r) 8 = 100
    · refine ⟨0, (a (300 + r) 12), (a (300 + r) 12), a, TS, nb, nr, st_60 hS, fun _ => rfl, by decide, cz_R (u := (a (300 + r) 12)) (by have hh := c_dropTime (E := E) (base := base) (ad := ad) hl f (nb, nr, ol) h30 r hr (by rw [hfr]; exact hq.1) (by rw [hfr]; exact hw); rw [hfr] at hh; exact hh) (by decide) hC, fun ad1 g ol2 hC2 hL2 => ?_⟩
      have h30b := hL2.1.1.2.1
      obtain ⟨⟨m0, m1, m2, m3, m4, m5, m6⟩, ⟨m8, m11, m12⟩, m10, m9⟩ := hL2.1.2.2.2.1 r hr
      have hh := m_dropTime (E := E) (base := base) (ad := ad1) hl g (nb, nr, ol2) r (by rw [h30b]; omega) (by rw [h30b]; omega) (by rw [m8]; exact hq.1) (by rw [m8]; exact hw)
      rw [m12] at hh
      exact mz_R hh (by decide) hL2
    · obtain ⟨b, hb, hbq⟩ := hq.2.2.2.2.2.2.2.2.2.2.1 (by omega)
      have hpb := hS.2 b hb
      have htr := hB.2.2.2.2.2.2.2.1 b hb
      have hRb := tr_R htr
      have hmem : 2 * r + 1 ∈ TS b := (htr.2.2 _).mpr (by rw [show (2 * r + 1) / 2 = r by omega]; exact ⟨hr, hbq, by rcases hq.1 with h | h | h | h | h <;> omega⟩)
      refine ⟨0, ((pl_tm (vC a) (TS b) (a (200 + b) 6) (a (200 + b) 7) (a 0 6)).getD ((TS b).idxOf (2 * r + 1)) 0), ((pl_tm (vC a) (TS b) (a (200 + b) 6) (a (200 + b) 7) (a 0 6)).getD ((TS b).idxOf (2 * r + 1)) 0), a, TS, nb, nr, st_60 hS, fun _ => rfl, by decide, cz_S (u := ((pl_tm (vC a) (TS b) (a (200 + b) 6) (a (200 + b) 7) (a 0 6)).getD ((TS b).idxOf (2 * r + 1)) 0)) (c_dropTime2 hl f (nb, nr, ol) h30 (cl_pe hC hB (by omega)) r hr (by rw [hfr]; exact hq.1) (by rw [hfr]; omega) (by rw [hfr]; exact hw) hb h4 (by rw [hfr]; exact hbq) (cl_pb hC hB hb (ch_0 hpb.1)) (hC.2.1 b hb) (fun j hj => Nat.le_of_lt (tr_q hB hb j hj)) (by rw [hC.1 0 (by omega)]; omega) hmem) (by decide) hC (fun ov g hP => ⟨by rw [hP.1, cl_bus hC hb, hC.1 0 (by omega), cg_tm (cl_cg hC) hRb], fun o h1 => hP.2 o (by omega)⟩), fun ad1 g ol2 hC2 hL2 => ?_⟩
      have h30b := hL2.1.1.2.1
      obtain ⟨⟨m0, m1, m2, m3, m4, m5, m6⟩, ⟨m8, m11, m12⟩, m10, m9⟩ := hL2.1.2.2.2.1 r hr
      have hm2 := hL2.1.2.1 b hb
      refine mz_L (u := ((pl_tm (vC a) (TS b) (a (200 + b) 6) (a (200 + b) 7) (a 0 6)).getD ((TS b).idxOf (2 * r + 1)) 0)) (m_dropTime2 hl g (nb, nr, ol2) r (by rw [h30b]; omega) (by rw [h30b]; omega) (by rw [m8]; exact hq.1) (by rw [m8]; omega) b (by omega) (mr_pj hL2.1 hB (by omega)) (mr_pk hL2.1 hB hb hpb.1) (hL2.2.1 b hb) (fault_c.mp hpb.1).1 (fun j hj => by have := tr_q hB hb j hj; omega) (by rw [hL2.1.1.2.2.2.1]; omega) htr.1 hmem (by rw [m10 (by omega)]; exact hbq)) (by decide) hL2 (fun ov h hP => ⟨?_, hP.2.1, hP.2.2⟩)
      rw [hP.1, hm2.2.2.2.1, hm2.2.2.2.2.1, hL2.1.1.2.2.2.1, cg_tm (mr_cg hL2.1) hRb]
  · refine ⟨1, 0, 0, a, TS, nb, nr, st_60 hS, fun _ => rfl, by decide, cz_T (x_dropTime hl f (nb, nr, ol) h30 i zi (by dsimp only; omega)) (by decide) hC, fun ad1 g ol2 hC2 hL2 => ?_⟩
    have h30b := hL2.1.1.2.1
    exact mz_R (n_dropTime hl g (nb, nr, ol2) i zi (by rw [h30b]; omega) (by rw [h30b]; omega)) (by decide) hL2
theorem z_worstRide {l : Launch} {E : ab_E} {base : Nat} (hl : l.stackTraces = false) {ad : Nat → Nat} {f a : Nat → Nat → Int} {TS : Nat → List Nat} {nb nr : Nat} {tm : Int} {ol : Int64 × UInt64} (hI : IS f a TS nb nr tm)  : ZZ l E base yX9_worstRide cX9_worstRide 4 (some .int) yX10_worstRide cX10_worstRide 3 (some .int) ad f a TS nb nr tm ol [] ["java/util/NoSuchElementException"] := by
  obtain ⟨hC, hL, hS, htm⟩ := hI
  have hB := hS.1
  have h4 := hB.1
  have h30 := hB.2.1
  have h06 := hB.2.2.1
  have hwf : ∀ k, k < nr → st_ok (f (300 + k) 8) ∧ (0 ≤ f (300 + k) 12 ∧ f (300 + k) 12 ≤ 100000) ∧ (0 ≤ f (300 + k) 11 ∧ f (300 + k) 11 ≤ 100000) ∧ 0 ≤ f (300 + k) 5 ∧ f (300 + k) 5 ≤ 1000 := fun k hk => by
    obtain ⟨r0, r1, r2, r3, r4, r5, r6, r7, r8, r9, r10, r11, r12⟩ := hB.2.2.2.2.2.2.1 k hk
    have hp := pd_b r1 r2 r3 r4
    rw [cl_req hC hk, r6]
    exact ⟨r0, by omega, by omega, by omega⟩
  have hwm : ∀ (g : Nat → Nat → Int), ML g a TS nb nr → (∀ k, k < nr → st_ok (g 63 k) ∧ (0 ≤ g 62 k ∧ g 62 k ≤ 100000) ∧ (0 ≤ g 61 k ∧ g 61 k ≤ 100000) ∧ (0 ≤ g 53 k ∧ g 53 k ≤ 20) ∧ (0 ≤ g 54 k ∧ g 54 k ≤ 20) ∧ (0 ≤ g 55 k ∧ g 55 k ≤ 20) ∧ 0 ≤ g 56 k ∧ g 56 k ≤ 20) ∧ ∀ k, k ≤ nr → wrm_f g k = wr_f f k := fun g hg => by
    refine ⟨fun k hk => ?_, fun k => ?_⟩
    · obtain ⟨r0, r1, r2, r3, r4, r5, r6, r7, r8, r9, r10, r11, r12⟩ := hB.2.2.2.2.2.2.1 k hk
      obtain ⟨⟨m0, m1, m2, m3, -⟩, ⟨m8, m11, m12⟩, -⟩ := hg.1.2.2.2.1 k hk
      rw [m0, m1, m2, m3, m8, m11, m12]
      exact ⟨r0, by omega, by omega, r1, r2, r3, r4⟩
    · induction k with
      | zero => intro _; rfl
      | succ k ih =>
        intro hk
        obtain ⟨-, -, -, -, -, -, r6, -⟩ := hB.2.2.2.2.2.2.1 k (by omega)
        obtain ⟨⟨m0, m1, m2, m3, -⟩, ⟨m8, m11, m12⟩, -⟩ := hg.1.2.2.2.1 k (by omega)
        rw [wrm_f, wr_f, ih (by omega), m0, m1, m2, m3, m8, m11, m12, cl_req hC (show k < nr by omega), r6]
  have hge := (wr_b hwf nr (Nat.le_refl _)).1
  by_cases hx : wr_f f nr = -1
  · refine ⟨1, 0, 0, a, TS, nb, nr, st_60 hS, fun _ => rfl, by decide, cz_T (x_worstRide hl f (nb, nr, ol) h30 hwf hx) (by decide) hC, fun ad1 g ol2 hC2 hL2 => ?_⟩
    obtain ⟨w1, w2⟩ := hwm g hL2
    exact mz_R (n_worstRide hl g (nb, nr, ol2) nr hL2.1.1.2.1 h30 w1 (by rw [w2 nr (Nat.le_refl _)]; omega)) (by decide) hL2
  · refine ⟨0, wr_f f nr, wr_f f nr, a, TS, nb, nr, st_60 hS, fun _ => rfl, by decide, cz_R (u := wr_f f nr) (c_worstRide hl f (nb, nr, ol) h30 hwf hx) (by decide) hC, fun ad1 g ol2 hC2 hL2 => ?_⟩
    obtain ⟨w1, w2⟩ := hwm g hL2
    have hh := m_worstRide (E := E) (base := base) (ad := ad1) hl g (nb, nr, ol2) nr hL2.1.1.2.1 h30 w1 (by rw [w2 nr (Nat.le_refl _)]; omega)
    rw [w2 nr (Nat.le_refl _)] at hh
    exact mz_R hh (by decide) hL2
theorem z_setDetour {l : Launch} {E : ab_E} {base : Nat} (hl : l.stackTraces = false) {ad : Nat → Nat} {f a : Nat → Nat → Int} {TS : Nat → List Nat} {nb nr : Nat} {tm : Int} {ol : Int64 × UInt64} (hI : IS f a TS nb nr tm) (i : Int) (zi : -2147483648 ≤ i ∧ i < 2147483648) : ZZ l E base yX9_setDetour cX9_setDetour 3 (some .int) yX10_setDetour cX10_setDetour 3 (some .int) ad f a TS nb nr tm ol [ii_v i] ["java/lang/IllegalArgumentException"] := by
  obtain ⟨hC, hL, hS, htm⟩ := hI
  have hB := hS.1
  have h4 := hB.1
  have h30 := hB.2.1
  have h06 := hB.2.2.1
  by_cases hi : 0 ≤ i ∧ i ≤ 200
  · refine ⟨0, (a 0 7), (a 0 7), (ii_up a 0 7 i), TS, nb, nr, ?_, fun _ => rfl, by decide, ⟨_, _, _, _, ⟨by decide, by decide, by decide⟩, c_setDetour hl f (nb, nr, ol) i zi hi, fun oc x ad1 z h => ?_⟩, fun ad1 g ol2 hC2 hL2 => ⟨_, _, by decide, m_setDetour hl g (nb, nr, ol2) i zi hi, fun oc x ad2 z h => ?_⟩⟩
    · exact st_set hS (Or.inl ⟨rfl, hi⟩)
    · obtain ⟨q1, q2, q3, q4⟩ := h
      subst q2 q3 q4
      refine ⟨rfl, rfl, by rw [q1, hC.1 0 (by omega)]; rfl, CL_0 hC, fun o h1 h2 => ii_up_row _ _ (by omega), fun _ _ => rfl⟩
    · obtain ⟨q1, q2, q3, q4⟩ := h
      subst q2 q3 q4
      refine ⟨rfl, rfl, rfl, by rw [q1, hL2.1.1.2.2.2.2.1], ML_set (ML_0 (i := 0) (u := 0) hL2 (by decide)) (Or.inl ⟨rfl, rfl⟩), fun o ho => (ii_up_row _ _ (by omega)).trans (ii_up_row _ _ (by omega)), ?_⟩
      show ii_up (ii_up g 40 0 0) 40 33 i 40 0 = 0
      rw [ii_up_k _ _ (by decide), ii_up_s]
  · exact ⟨1, 0, 0, a, TS, nb, nr, st_60 hS, fun _ => rfl, by decide, cz_T (x_setDetour hl f (nb, nr, ol) i zi hi) (by decide) hC, fun ad1 g ol2 hC2 hL2 => mz_R (n_setDetour hl g (nb, nr, ol2) i zi hi) (by decide) hL2⟩
theorem z_setWait {l : Launch} {E : ab_E} {base : Nat} (hl : l.stackTraces = false) {ad : Nat → Nat} {f a : Nat → Nat → Int} {TS : Nat → List Nat} {nb nr : Nat} {tm : Int} {ol : Int64 × UInt64} (hI : IS f a TS nb nr tm) (i : Int) (zi : -2147483648 ≤ i ∧ i < 2147483648) : ZZ l E base yX9_setWait cX9_setWait 3 (some .int) yX10_setWait cX10_setWait 3 (some .int) ad f a TS nb nr tm ol [ii_v i] ["java/lang/IllegalArgumentException"] := by
  obtain ⟨hC, hL, hS, htm⟩ := hI
  have hB := hS.1
  have h4 := hB.1
  have h30 := hB.2.1
  have h06 := hB.2.2.1
  by_cases hi : 0 ≤ i ∧ i ≤ 60
  · refine ⟨0, (a 0 8), (a 0 8), (ii_up a 0 8 i), TS, nb, nr, ?_, fun _ => rfl, by decide, ⟨_, _, _, _, ⟨by decide, by decide, by decide⟩, c_setWait hl f (nb, nr, ol) i zi hi, fun oc x ad1 z h => ?_⟩, fun ad1 g ol2 hC2 hL2 => ⟨_, _, by decide, m_setWait hl g (nb, nr, ol2) i zi hi, fun oc x ad2 z h => ?_⟩⟩
    · exact st_set hS (Or.inr ⟨rfl, hi⟩)
    · obtain ⟨q1, q2, q3, q4⟩ := h
      subst q2 q3 q4
      refine ⟨rfl, rfl, by rw [q1, hC.1 0 (by omega)]; rfl, CL_0 hC, fun o h1 h2 => ii_up_row _ _ (by omega), fun _ _ => rfl⟩
    · obtain ⟨q1, q2, q3, q4⟩ := h
      subst q2 q3 q4
      refine ⟨rfl, rfl, rfl, by rw [q1, hL2.1.1.2.2.2.2.2], ML_set (ML_0 (i := 0) (u := 0) hL2 (by decide)) (Or.inr ⟨rfl, rfl⟩), fun o ho => (ii_up_row _ _ (by omega)).trans (ii_up_row _ _ (by omega)), ?_⟩
      show ii_up (ii_up g 40 0 0) 40 34 i 40 0 = 0
      rw [ii_up_k _ _ (by decide), ii_up_s]
  · exact ⟨1, 0, 0, a, TS, nb, nr, st_60 hS, fun _ => rfl, by decide, cz_T (x_setWait hl f (nb, nr, ol) i zi hi) (by decide) hC, fun ad1 g ol2 hC2 hL2 => mz_R (n_setWait hl g (nb, nr, ol2) i zi hi) (by decide) hL2⟩
theorem z_pass {l : Launch} {E : ab_E} {base : Nat} (hl : l.stackTraces = false) {ad : Nat → Nat} {f a : Nat → Nat → Int} {TS : Nat → List Nat} {nb nr : Nat} {tm : Int} {ol : Int64 × UInt64} (hI : IS f a TS nb nr tm) (i : Int) (zi : -2147483648 ≤ i ∧ i < 2147483648) : ZZ l E base yX9_pass cX9_pass 6 (some .int) yX10_pass cX10_pass 5 (some .int) ad f a TS nb nr tm ol [ii_v i] ["java/lang/IllegalArgumentException"] := by
  obtain ⟨hC, hL, hS, htm⟩ := hI
  have hB := hS.1
  have h4 := hB.1
  have h30 := hB.2.1
  have h06 := hB.2.2.1
  by_cases hi : 1 ≤ i ∧ i ≤ 60
  · obtain ⟨n, hn⟩ : ∃ n : Nat, n = i.toNat := ⟨_, rfl⟩
    obtain ⟨s2, hs2⟩ : ∃ s2 : rs, s2 = mnb (rn_ (a, TS, 0) nb (n - 1)) nb := ⟨_, rfl⟩
    have hM := mi_all hS (n := n) (k := n - 1) (b := nb) (by omega) (Nat.le_refl _)
    rw [← hs2] at hM
    have hfin : ST s2.1 s2.2.1 nb nr (tm + 60) := ⟨bs_tm hM.1.1 (by omega), (mi_st (t := s2.2.2) hM.1).2⟩
    refine ⟨0, s2.2.2, s2.2.2, s2.1, s2.2.1, nb, nr, hfin, fun _ => rfl, by decide, ⟨_, _, _, _, ⟨by decide, by decide, by decide⟩, c_pass hl f (nb, nr, ol) i zi hi h4 h30 (JC f a TS nb nr n) (by rw [hC.1 0 (by omega)]; omega) (jc_0 hC (by omega)) (fun k b t g hJ => ?_) (fun k b t g hb hJ => jc_s hS htm (by omega) k b t g hb hJ) (fun k t g hk hJ => jc_n k t g (by omega) hJ), fun oc x ad1 z h => ?_⟩, fun ad1 g ol2 hC2 hL2 => ⟨_, _, by decide, m_pass hl g (nb, nr, ol2) i zi hi nb h4 (JM g a TS nb nr n) (by rw [hL2.1.1.2.2.2.1]; omega) (jm_0 hL2 (by omega)) (fun k b t g2 hJ => ?_) (fun k b t g2 hb hJ => jm_s hS htm (by omega) k b t g2 hb hJ) (fun k t g2 hk hJ => jm_n k t g2 (by omega) hJ), fun oc x ad2 z h => ?_⟩⟩
    · obtain ⟨j1, j2, j3, j4, j5⟩ := hJ
      have hjb := jt_b hS htm (n := n) (by omega) j1 j2
      rw [j4.1 0 (by omega), j3]
      omega
    · obtain ⟨q1, q2, q3, ov, q4, t, q5, j1, j2, j3, j4, j5⟩ := h
      subst q1 q2
      rw [← hn, ← hs2] at j3 j4
      refine ⟨rfl, q3, ?_, j4, j5, fun _ _ => rfl⟩
      rw [q4, q5, j3]
      rfl
    · obtain ⟨j1, j2, j3, j4, j5, j6⟩ := hJ
      have hjb := jt_b hS htm (n := n) (by omega) j1 j2
      refine ⟨j4.1.1.1, ?_⟩
      rw [j4.1.1.2.2.2.1, j3]
      omega
    · obtain ⟨q1, q2, q3, ov, q4, t, q5, j1, j2, j3, j4, j5, j6⟩ := h
      subst q1 q2
      rw [← hn, ← hs2] at j3 j4
      refine ⟨rfl, rfl, q3, ?_, j4, j5, j6⟩
      rw [q4, q5, j3]
  · exact ⟨1, 0, 0, a, TS, nb, nr, st_60 hS, fun _ => rfl, by decide, cz_T (x_pass hl f (nb, nr, ol) i zi hi) (by decide) hC, fun ad1 g ol2 hC2 hL2 => mz_R (n_pass hl g (nb, nr, ol2) i zi hi) (by decide) hL2⟩
theorem z_quote {l : Launch} {E : ab_E} {base : Nat} (hl : l.stackTraces = false) {ad : Nat → Nat} {f a : Nat → Nat → Int} {TS : Nat → List Nat} {nb nr : Nat} {tm : Int} {ol : Int64 × UInt64} (hI : IS f a TS nb nr tm) (x y u z m : Int) (zx : -2147483648 ≤ x ∧ x < 2147483648) (zy : -2147483648 ≤ y ∧ y < 2147483648) (zu : -2147483648 ≤ u ∧ u < 2147483648) (zz : -2147483648 ≤ z ∧ z < 2147483648) (zm : -2147483648 ≤ m ∧ m < 2147483648) : ZZ l E base yX9_quote cX9_quote 6 (some .int) yX10_quote cX10_quote 6 (some .int) ad f a TS nb nr tm ol [ii_v x, ii_v y, ii_v u, ii_v z, ii_v m] ["java/lang/IllegalArgumentException", "java/lang/UnsupportedOperationException", "java/util/NoSuchElementException"] := by
  obtain ⟨hC, hL, hS, htm⟩ := hI
  have hB := hS.1
  have h4 := hB.1
  have h30 := hB.2.1
  have h06 := hB.2.2.1
  by_cases h : (((0 ≤ x ∧ x ≤ 20) ∧ (0 ≤ y ∧ y ≤ 20)) ∧ ((0 ≤ u ∧ u ≤ 20) ∧ (0 ≤ z ∧ z ≤ 20)) ∧ 1 ≤ m ∧ m ≤ 6)
  · by_cases h2 : x = u ∧ y = z
    · refine ⟨2, 0, 0, a, TS, nb, nr, st_60 hS, fun _ => rfl, by decide, cz_T (x2_quote hl f (nb, nr, ol) x y u z m zx zy zu zz zm h h2) (by decide) hC, fun ad1 g ol2 hC2 hL2 => ?_⟩
      have hh := n_quote (E := E) (base := base) (ad := ad1) hl g (nb, nr, ol2) x y u z m zx zy zu zz zm (by rw [wc_2 h h2]; decide)
      rw [wc_2 h h2] at hh
      exact mz_R hh (by decide) hL2
    · have hwd := cl_wd (ol := ol) hC hB (by omega) (fun b hb => ⟨_, (hS.2 b hb).1⟩)
      have e06 := hC.1 0 (by omega)
      obtain ⟨PC, ePC⟩ : ∃ PC : pa_S, PC = pa_b (vw_f (vC f) nr x y u z m (f 0 6 + f 0 8) (pd_d x y u z * (100 + f 0 7) / 100)) (fun b => f (200 + b)) TS nr (f 0 6) nb (-1, 0, 0, 1000000, 1) := ⟨_, rfl⟩
      obtain ⟨hpe, hpa⟩ := q_cl hC hS htm h (f 13 4) (f 13 5)
      rw [← ePC] at hpe hpa
      have hp1 : _ = PC.1 := hpe.1
      have hp2 : _ = PC.2.2.2.1 := hpe.2
      have hw : ∀ g2 : Nat → Nat → Int, (∀ o2, o2 ≠ 10 → o2 ≠ 11 → o2 ≠ 12 → o2 ≠ 13 → o2 ≠ 14 → o2 ≠ 24 → g2 o2 = (wi_T f nr x y u z m) o2) → CL g2 a TS nb nr ∧ kM f g2 := fun g2 hg => q_wi hC hB htm h hg
      by_cases hfd : 0 ≤ PC.1
      · refine ⟨0, PC.2.2.2.1, PC.2.2.2.1, a, TS, nb, nr, st_60 hS, fun _ => rfl, by decide, ⟨_, _, _, _, ⟨by decide, by decide, by decide⟩, c_quote hl f (nb, nr, ol) hwd x y u z m zx zy zu zz zm (by rw [e06]; omega) (by rw [e06]; exact hB.2.2.2.1) (by rw [e06]; exact hB.2.2.2.2.1) h h2 (by dsimp only; rw [hp1]; exact hfd), fun oc xx ad1 zz2 hP => ?_⟩, fun ad1 g ol2 hC2 hL2 => ⟨_, _, by decide, m_quote hl g (nb, nr, ol2) (mr_pj hL2.1 hB (by omega)) nr hL2.1.1.2.1 h30 (mr_rid hL2.1 hB) nb hL2.1.1.1 h4 (q_T hL2 hS) (by rw [hL2.1.1.2.2.2.1]; omega) (by rw [hL2.1.1.2.2.2.2.1]; exact hB.2.2.2.1) (by rw [hL2.1.1.2.2.2.2.2]; exact hB.2.2.2.2.1) x y u z m zx zy zu zz zm h h2 (by rw [q_ml hC hL2 hS, ← ePC]; exact hfd), fun oc xx ad2 zz2 hP => ?_⟩⟩
        · obtain ⟨q1, q2, q3, ov, q4, q5, q6⟩ := hP
          obtain ⟨w1, w2⟩ := hw _ q6
          subst q1 q2
          refine ⟨rfl, q3, ?_, w1, w2, fun _ _ => rfl⟩
          dsimp only at q5
          rw [q4, q5, hp2]
          rfl
        · obtain ⟨q1, q2, q3, ov, q4, q5, q6, -, q7, q8⟩ := hP
          obtain ⟨w1, w2⟩ := q_mF hL2 h30 q7 q8
          subst q1 q2
          refine ⟨rfl, rfl, q3, ?_, w1, w2, q6⟩
          rw [q4, q5, q_ml hC hL2 hS, ← ePC]
      · refine ⟨3, 0, 0, a, TS, nb, nr, st_60 hS, fun _ => rfl, by decide, ⟨_, _, _, _, ⟨by decide, by decide, by decide⟩, x3_quote hl f (nb, nr, ol) hwd x y u z m zx zy zu zz zm (by rw [e06]; omega) (by rw [e06]; exact hB.2.2.2.1) (by rw [e06]; exact hB.2.2.2.2.1) h h2 (by dsimp only; rw [hp1]; omega), fun oc xx ad1 zz2 hP => ?_⟩, fun ad1 g ol2 hC2 hL2 => ⟨_, _, by decide, n3_quote hl g (nb, nr, ol2) (mr_pj hL2.1 hB (by omega)) nr hL2.1.1.2.1 h30 (mr_rid hL2.1 hB) nb hL2.1.1.1 h4 (q_T hL2 hS) (by rw [hL2.1.1.2.2.2.1]; omega) (by rw [hL2.1.1.2.2.2.2.1]; exact hB.2.2.2.1) (by rw [hL2.1.1.2.2.2.2.2]; exact hB.2.2.2.2.1) x y u z m zx zy zu zz zm h h2 (by rw [q_ml hC hL2 hS, ← ePC]; omega), fun oc xx ad2 zz2 hP => ?_⟩⟩
        · obtain ⟨q1, q2, q3, q4, q6⟩ := hP
          obtain ⟨w1, w2⟩ := hw _ q6
          subst q1 q2
          exact ⟨rfl, q3, q4, w1, w2, fun _ _ => rfl⟩
        · obtain ⟨q1, q2, q3, ov, q4, q5, q6, -, q7, q8⟩ := hP
          obtain ⟨w1, w2⟩ := q_mF hL2 h30 q7 q8
          subst q1 q2
          refine ⟨rfl, rfl, q3, ?_, w1, w2, q6⟩
          rw [q4, q5]
  · refine ⟨1, 0, 0, a, TS, nb, nr, st_60 hS, fun _ => rfl, by decide, cz_T (x_quote hl f (nb, nr, ol) x y u z m zx zy zu zz zm h) (by decide) hC, fun ad1 g ol2 hC2 hL2 => ?_⟩
    have hh := n_quote (E := E) (base := base) (ad := ad1) hl g (nb, nr, ol2) x y u z m zx zy zu zz zm (by rw [wc_1 h]; decide)
    rw [wc_1 h] at hh
    exact mz_R hh (by decide) hL2
theorem z_quoteByTrying {l : Launch} {E : ab_E} {base : Nat} (hl : l.stackTraces = false) {ad : Nat → Nat} {f a : Nat → Nat → Int} {TS : Nat → List Nat} {nb nr : Nat} {tm : Int} {ol : Int64 × UInt64} (hI : IS f a TS nb nr tm) (x y u z m : Int) (zx : -2147483648 ≤ x ∧ x < 2147483648) (zy : -2147483648 ≤ y ∧ y < 2147483648) (zu : -2147483648 ≤ u ∧ u < 2147483648) (zz : -2147483648 ≤ z ∧ z < 2147483648) (zm : -2147483648 ≤ m ∧ m < 2147483648) : ZZ l E base yX9_quoteByTrying cX9_quoteByTrying 6 (some .int) yX10_quoteByTrying cX10_quoteByTrying 6 (some .int) ad f a TS nb nr tm ol [ii_v x, ii_v y, ii_v u, ii_v z, ii_v m] ["java/lang/IllegalArgumentException", "java/lang/UnsupportedOperationException", "java/util/NoSuchElementException"] := by
  obtain ⟨hC, hL, hS, htm⟩ := hI
  have hB := hS.1
  have h4 := hB.1
  have h30 := hB.2.1
  have h06 := hB.2.2.1
  by_cases h : (((0 ≤ x ∧ x ≤ 20) ∧ (0 ≤ y ∧ y ≤ 20)) ∧ ((0 ≤ u ∧ u ≤ 20) ∧ (0 ≤ z ∧ z ≤ 20)) ∧ 1 ≤ m ∧ m ≤ 6)
  · by_cases h2 : x = u ∧ y = z
    · refine ⟨2, 0, 0, a, TS, nb, nr, st_60 hS, fun _ => rfl, by decide, cz_T (x2_quoteByTrying hl f (nb, nr, ol) x y u z m zx zy zu zz zm h h2) (by decide) hC, fun ad1 g ol2 hC2 hL2 => ?_⟩
      have hh := n_quoteByTrying (E := E) (base := base) (ad := ad1) hl g (nb, nr, ol2) x y u z m zx zy zu zz zm (by rw [wc_2 h h2]; decide)
      rw [wc_2 h h2] at hh
      exact mz_R hh (by decide) hL2
    · have hwd := cl_wd (ol := ol) hC hB (by omega) (fun b hb => ⟨_, (hS.2 b hb).1⟩)
      have e06 := hC.1 0 (by omega)
      obtain ⟨PC, ePC⟩ : ∃ PC : pa_S, PC = pa_b (vw_f (vC f) nr x y u z m (f 0 6 + f 0 8) (pd_d x y u z * (100 + f 0 7) / 100)) (fun b => f (200 + b)) TS nr (f 0 6) nb (-1, 0, 0, 1000000, 1) := ⟨_, rfl⟩
      obtain ⟨hpe, hpa⟩ := q_cl hC hS htm h (f 13 4) (f 13 5)
      rw [← ePC] at hpe hpa
      have hp1 : _ = PC.1 := hpa.1
      have hp2 : _ = PC.2.2.2.1 := hpa.2.1
      have hw : ∀ g2 : Nat → Nat → Int, (∀ o2, o2 ≠ 10 → o2 ≠ 11 → o2 ≠ 12 → o2 ≠ 13 → o2 ≠ 14 → o2 ≠ 24 → g2 o2 = (wi_T f nr x y u z m) o2) → CL g2 a TS nb nr ∧ kM f g2 := fun g2 hg => q_wi hC hB htm h hg
      by_cases hfd : 0 ≤ PC.1
      · refine ⟨0, PC.2.2.2.1, PC.2.2.2.1, a, TS, nb, nr, st_60 hS, fun _ => rfl, by decide, ⟨_, _, _, _, ⟨by decide, by decide, by decide⟩, c_quoteByTrying hl f (nb, nr, ol) hwd x y u z m zx zy zu zz zm (by rw [e06]; omega) (by rw [e06]; exact hB.2.2.2.1) (by rw [e06]; exact hB.2.2.2.2.1) h h2 (by dsimp only; rw [hp1]; exact hfd), fun oc xx ad1 zz2 hP => ?_⟩, fun ad1 g ol2 hC2 hL2 => ⟨_, _, by decide, m_quoteByTrying hl g (nb, nr, ol2) (mr_pj hL2.1 hB (by omega)) nr hL2.1.1.2.1 h30 (mr_rid hL2.1 hB) nb hL2.1.1.1 h4 (q_T hL2 hS) (by rw [hL2.1.1.2.2.2.1]; omega) (by rw [hL2.1.1.2.2.2.2.1]; exact hB.2.2.2.1) (by rw [hL2.1.1.2.2.2.2.2]; exact hB.2.2.2.2.1) x y u z m zx zy zu zz zm h h2 (by rw [q_ml hC hL2 hS, ← ePC]; exact hfd), fun oc xx ad2 zz2 hP => ?_⟩⟩
        · obtain ⟨q1, q2, q3, ov, q4, q5, q6⟩ := hP
          obtain ⟨w1, w2⟩ := hw _ q6
          subst q1 q2
          refine ⟨rfl, q3, ?_, w1, w2, fun _ _ => rfl⟩
          dsimp only at q5
          rw [q4, q5, hp2]
          rfl
        · obtain ⟨q1, q2, q3, ov, q4, q5, q6, -, q7, q8⟩ := hP
          obtain ⟨w1, w2⟩ := q_mF hL2 h30 q7 q8
          subst q1 q2
          refine ⟨rfl, rfl, q3, ?_, w1, w2, q6⟩
          rw [q4, q5, q_ml hC hL2 hS, ← ePC]
      · refine ⟨3, 0, 0, a, TS, nb, nr, st_60 hS, fun _ => rfl, by decide, ⟨_, _, _, _, ⟨by decide, by decide, by decide⟩, x3_quoteByTrying hl f (nb, nr, ol) hwd x y u z m zx zy zu zz zm (by rw [e06]; omega) (by rw [e06]; exact hB.2.2.2.1) (by rw [e06]; exact hB.2.2.2.2.1) h h2 (by dsimp only; rw [hp1]; omega), fun oc xx ad1 zz2 hP => ?_⟩, fun ad1 g ol2 hC2 hL2 => ⟨_, _, by decide, n3_quoteByTrying hl g (nb, nr, ol2) (mr_pj hL2.1 hB (by omega)) nr hL2.1.1.2.1 h30 (mr_rid hL2.1 hB) nb hL2.1.1.1 h4 (q_T hL2 hS) (by rw [hL2.1.1.2.2.2.1]; omega) (by rw [hL2.1.1.2.2.2.2.1]; exact hB.2.2.2.1) (by rw [hL2.1.1.2.2.2.2.2]; exact hB.2.2.2.2.1) x y u z m zx zy zu zz zm h h2 (by rw [q_ml hC hL2 hS, ← ePC]; omega), fun oc xx ad2 zz2 hP => ?_⟩⟩
        · obtain ⟨q1, q2, q3, q4, q6⟩ := hP
          obtain ⟨w1, w2⟩ := hw _ q6
          subst q1 q2
          exact ⟨rfl, q3, q4, w1, w2, fun _ _ => rfl⟩
        · obtain ⟨q1, q2, q3, ov, q4, q5, q6, -, q7, q8⟩ := hP
          obtain ⟨w1, w2⟩ := q_mF hL2 h30 q7 q8
          subst q1 q2
          refine ⟨rfl, rfl, q3, ?_, w1, w2, q6⟩
          rw [q4, q5]
  · refine ⟨1, 0, 0, a, TS, nb, nr, st_60 hS, fun _ => rfl, by decide, cz_T (x_quoteByTrying hl f (nb, nr, ol) x y u z m zx zy zu zz zm h) (by decide) hC, fun ad1 g ol2 hC2 hL2 => ?_⟩
    have hh := n_quoteByTrying (E := E) (base := base) (ad := ad1) hl g (nb, nr, ol2) x y u z m zx zy zu zz zm (by rw [wc_1 h]; decide)
    rw [wc_1 h] at hh
    exact mz_R hh (by decide) hL2
theorem z_quotedBus {l : Launch} {E : ab_E} {base : Nat} (hl : l.stackTraces = false) {ad : Nat → Nat} {f a : Nat → Nat → Int} {TS : Nat → List Nat} {nb nr : Nat} {tm : Int} {ol : Int64 × UInt64} (hI : IS f a TS nb nr tm) (x y u z m : Int) (zx : -2147483648 ≤ x ∧ x < 2147483648) (zy : -2147483648 ≤ y ∧ y < 2147483648) (zu : -2147483648 ≤ u ∧ u < 2147483648) (zz : -2147483648 ≤ z ∧ z < 2147483648) (zm : -2147483648 ≤ m ∧ m < 2147483648) : ZZ l E base yX9_quotedBus cX9_quotedBus 6 (some .int) yX10_quotedBus cX10_quotedBus 6 (some .int) ad f a TS nb nr tm ol [ii_v x, ii_v y, ii_v u, ii_v z, ii_v m] ["java/lang/IllegalArgumentException", "java/lang/UnsupportedOperationException", "java/util/NoSuchElementException"] := by
  obtain ⟨hC, hL, hS, htm⟩ := hI
  have hB := hS.1
  have h4 := hB.1
  have h30 := hB.2.1
  have h06 := hB.2.2.1
  by_cases h : (((0 ≤ x ∧ x ≤ 20) ∧ (0 ≤ y ∧ y ≤ 20)) ∧ ((0 ≤ u ∧ u ≤ 20) ∧ (0 ≤ z ∧ z ≤ 20)) ∧ 1 ≤ m ∧ m ≤ 6)
  · by_cases h2 : x = u ∧ y = z
    · refine ⟨2, 0, 0, a, TS, nb, nr, st_60 hS, fun _ => rfl, by decide, cz_T (x2_quotedBus hl f (nb, nr, ol) x y u z m zx zy zu zz zm h h2) (by decide) hC, fun ad1 g ol2 hC2 hL2 => ?_⟩
      have hh := n_quotedBus (E := E) (base := base) (ad := ad1) hl g (nb, nr, ol2) x y u z m zx zy zu zz zm (by rw [wc_2 h h2]; decide)
      rw [wc_2 h h2] at hh
      exact mz_R hh (by decide) hL2
    · have hwd := cl_wd (ol := ol) hC hB (by omega) (fun b hb => ⟨_, (hS.2 b hb).1⟩)
      have e06 := hC.1 0 (by omega)
      obtain ⟨PC, ePC⟩ : ∃ PC : pa_S, PC = pa_b (vw_f (vC f) nr x y u z m (f 0 6 + f 0 8) (pd_d x y u z * (100 + f 0 7) / 100)) (fun b => f (200 + b)) TS nr (f 0 6) nb (-1, 0, 0, 1000000, 1) := ⟨_, rfl⟩
      obtain ⟨hpe, hpa⟩ := q_cl hC hS htm h (f 13 4) (f 13 5)
      rw [← ePC] at hpe hpa
      have hp1 : _ = PC.1 := hpa.1
      have hp2 : _ = PC.1 := hpa.1
      have hw : ∀ g2 : Nat → Nat → Int, (∀ o2, o2 ≠ 10 → o2 ≠ 11 → o2 ≠ 12 → o2 ≠ 13 → o2 ≠ 14 → o2 ≠ 24 → g2 o2 = (wi_T f nr x y u z m) o2) → CL g2 a TS nb nr ∧ kM f g2 := fun g2 hg => q_wi hC hB htm h hg
      by_cases hfd : 0 ≤ PC.1
      · refine ⟨0, PC.1, PC.1, a, TS, nb, nr, st_60 hS, fun _ => rfl, by decide, ⟨_, _, _, _, ⟨by decide, by decide, by decide⟩, c_quotedBus hl f (nb, nr, ol) hwd x y u z m zx zy zu zz zm (by rw [e06]; omega) (by rw [e06]; exact hB.2.2.2.1) (by rw [e06]; exact hB.2.2.2.2.1) h h2 (by dsimp only; rw [hp1]; exact hfd), fun oc xx ad1 zz2 hP => ?_⟩, fun ad1 g ol2 hC2 hL2 => ⟨_, _, by decide, m_quotedBus hl g (nb, nr, ol2) (mr_pj hL2.1 hB (by omega)) nr hL2.1.1.2.1 h30 (mr_rid hL2.1 hB) nb hL2.1.1.1 h4 (q_T hL2 hS) (by rw [hL2.1.1.2.2.2.1]; omega) (by rw [hL2.1.1.2.2.2.2.1]; exact hB.2.2.2.1) (by rw [hL2.1.1.2.2.2.2.2]; exact hB.2.2.2.2.1) x y u z m zx zy zu zz zm h h2 (by rw [q_ml hC hL2 hS, ← ePC]; exact hfd), fun oc xx ad2 zz2 hP => ?_⟩⟩
        · obtain ⟨q1, q2, q3, ov, q4, q5, q6⟩ := hP
          obtain ⟨w1, w2⟩ := hw _ q6
          subst q1 q2
          refine ⟨rfl, q3, ?_, w1, w2, fun _ _ => rfl⟩
          dsimp only at q5
          rw [q4, q5, hp2]
          rfl
        · obtain ⟨q1, q2, q3, ov, q4, q5, q6, -, q7, q8⟩ := hP
          obtain ⟨w1, w2⟩ := q_mF hL2 h30 q7 q8
          subst q1 q2
          refine ⟨rfl, rfl, q3, ?_, w1, w2, q6⟩
          rw [q4, q5, q_ml hC hL2 hS, ← ePC]
      · refine ⟨3, 0, 0, a, TS, nb, nr, st_60 hS, fun _ => rfl, by decide, ⟨_, _, _, _, ⟨by decide, by decide, by decide⟩, x3_quotedBus hl f (nb, nr, ol) hwd x y u z m zx zy zu zz zm (by rw [e06]; omega) (by rw [e06]; exact hB.2.2.2.1) (by rw [e06]; exact hB.2.2.2.2.1) h h2 (by dsimp only; rw [hp1]; omega), fun oc xx ad1 zz2 hP => ?_⟩, fun ad1 g ol2 hC2 hL2 => ⟨_, _, by decide, n3_quotedBus hl g (nb, nr, ol2) (mr_pj hL2.1 hB (by omega)) nr hL2.1.1.2.1 h30 (mr_rid hL2.1 hB) nb hL2.1.1.1 h4 (q_T hL2 hS) (by rw [hL2.1.1.2.2.2.1]; omega) (by rw [hL2.1.1.2.2.2.2.1]; exact hB.2.2.2.1) (by rw [hL2.1.1.2.2.2.2.2]; exact hB.2.2.2.2.1) x y u z m zx zy zu zz zm h h2 (by rw [q_ml hC hL2 hS, ← ePC]; omega), fun oc xx ad2 zz2 hP => ?_⟩⟩
        · obtain ⟨q1, q2, q3, q4, q6⟩ := hP
          obtain ⟨w1, w2⟩ := hw _ q6
          subst q1 q2
          exact ⟨rfl, q3, q4, w1, w2, fun _ _ => rfl⟩
        · obtain ⟨q1, q2, q3, ov, q4, q5, q6, -, q7, q8⟩ := hP
          obtain ⟨w1, w2⟩ := q_mF hL2 h30 q7 q8
          subst q1 q2
          refine ⟨rfl, rfl, q3, ?_, w1, w2, q6⟩
          rw [q4, q5]
  · refine ⟨1, 0, 0, a, TS, nb, nr, st_60 hS, fun _ => rfl, by decide, cz_T (x_quotedBus hl f (nb, nr, ol) x y u z m zx zy zu zz zm h) (by decide) hC, fun ad1 g ol2 hC2 hL2 => ?_⟩
    have hh := n_quotedBus (E := E) (base := base) (ad := ad1) hl g (nb, nr, ol2) x y u z m zx zy zu zz zm (by rw [wc_1 h]; decide)
    rw [wc_1 h] at hh
    exact mz_R hh (by decide) hL2
