/-! A request on both sides. -/
section RR
variable {f g a A1 : Nat → Nat → Int} {TS : Nat → List Nat} {nb nr b i9 : Nat} {tm x y u z m s8 u9 : Int} {S : List Nat}
theorem r_5 (hC : CL f a TS nb nr) (hL : ML g a TS nb nr) (h30 : nr ≤ 30) : vM g 5 nr = vC f 5 nr := by
  show g 61 nr = f (300 + nr) 11
  rw [(hL.1.2.2.2.2.1 nr (Nat.le_refl _) h30).1, hC.2.2.2.2.2.2.2.2.2.1]
theorem r_ml (hC : CL f a TS nb nr) (hL : ML g a TS nb nr) (hS : ST a TS nb nr tm) : pa_b (vw_f (vM g) nr x y u z m (g 40 32 + g 40 34) (pd_d x y u z * (100 + g 40 33) / 100)) (mB g nr) TS nr (g 40 32) nb (-1, 0, 0, 1000000, 1) = pa_b (vw_f (vC f) nr x y u z m (f 0 6 + f 0 8) (pd_d x y u z * (100 + f 0 7) / 100)) (fun b => f (200 + b)) TS nr (f 0 6) nb (-1, 0, 0, 1000000, 1) := by
  have hB := hS.1
  have h30 := hB.2.1
  have e0 := hC.1 0 (by omega)
  have hh := cg_b (vw_cg (x := x) (y := y) (u := u) (z := z) (n := m) (lp := f 0 6 + f 0 8) (lr := pd_d x y u z * (100 + f 0 7) / 100) (cg_fm hC hL) (r_5 hC hL h30)) (B := fun b => f (200 + b)) (B' := mB g nr) (TS := TS) (r := nr) (Nat.le_refl nr) (now := f 0 6) (s := (-1, 0, 0, 1000000, 1)) nb (fun b hb => ⟨q_bq hC hL hB hb, fun q hq => Nat.le_of_lt (tr_R (hB.2.2.2.2.2.2.2.1 b hb) q hq)⟩)
  rw [hL.1.1.2.2.2.1, hL.1.1.2.2.2.2.1, hL.1.1.2.2.2.2.2, ← e0]
  exact hh
/-- the new request's row -/
theorem r_row (hC : CL f a TS nb nr) (hi : i9 = 9 ∨ i9 = 10) : ii_up (ii_up (nq_T (wi_T f nr x y u z m) nr) (300 + nr) 8 s8) (300 + nr) i9 u9 (300 + nr) 0 = x ∧ ii_up (ii_up (nq_T (wi_T f nr x y u z m) nr) (300 + nr) 8 s8) (300 + nr) i9 u9 (300 + nr) 1 = y ∧ ii_up (ii_up (nq_T (wi_T f nr x y u z m) nr) (300 + nr) 8 s8) (300 + nr) i9 u9 (300 + nr) 2 = u ∧ ii_up (ii_up (nq_T (wi_T f nr x y u z m) nr) (300 + nr) 8 s8) (300 + nr) i9 u9 (300 + nr) 3 = z ∧ ii_up (ii_up (nq_T (wi_T f nr x y u z m) nr) (300 + nr) 8 s8) (300 + nr) i9 u9 (300 + nr) 4 = m ∧ ii_up (ii_up (nq_T (wi_T f nr x y u z m) nr) (300 + nr) 8 s8) (300 + nr) i9 u9 (300 + nr) 5 = pd_d x y u z ∧ ii_up (ii_up (nq_T (wi_T f nr x y u z m) nr) (300 + nr) 8 s8) (300 + nr) i9 u9 (300 + nr) 6 = f 0 6 + f 0 8 ∧ ii_up (ii_up (nq_T (wi_T f nr x y u z m) nr) (300 + nr) 8 s8) (300 + nr) i9 u9 (300 + nr) 7 = pd_d x y u z * (100 + f 0 7) / 100 ∧ ii_up (ii_up (nq_T (wi_T f nr x y u z m) nr) (300 + nr) 8 s8) (300 + nr) i9 u9 (300 + nr) 8 = s8 ∧ ii_up (ii_up (nq_T (wi_T f nr x y u z m) nr) (300 + nr) 8 s8) (300 + nr) i9 u9 (300 + nr) 11 = 0 ∧ ii_up (ii_up (nq_T (wi_T f nr x y u z m) nr) (300 + nr) 8 s8) (300 + nr) i9 u9 (300 + nr) 12 = 0 ∧ (i9 = 9 → ii_up (ii_up (nq_T (wi_T f nr x y u z m) nr) (300 + nr) 8 s8) (300 + nr) i9 u9 (300 + nr) 9 = u9) ∧ (i9 = 10 → ii_up (ii_up (nq_T (wi_T f nr x y u z m) nr) (300 + nr) 8 s8) (300 + nr) i9 u9 (300 + nr) 10 = u9) := by
  obtain ⟨a0, a1, a2, a3, a4, a5, a6, a7, a8⟩ := wi_at (f := f) (nr := nr) (x := x) (y := y) (u := u) (z := z) (n := m)
  have lo : ∀ i, i ≠ 8 → i ≠ 9 → i ≠ 10 → ii_up (ii_up (nq_T (wi_T f nr x y u z m) nr) (300 + nr) 8 s8) (300 + nr) i9 u9 (300 + nr) i = wi_T f nr x y u z m (300 + nr) i := fun i h1 h2 h3 => by
    rw [ii_up_k _ _ (by omega), ii_up_k _ _ h1, nq_row (by omega)]
  obtain ⟨h1, h2, w0, w4, w6, w7, w8, w9, w10, w11, w12⟩ := hC
  rw [lo 0 (by decide) (by decide) (by decide), lo 1 (by decide) (by decide) (by decide), lo 2 (by decide) (by decide) (by decide), lo 3 (by decide) (by decide) (by decide), lo 4 (by decide) (by decide) (by decide), lo 5 (by decide) (by decide) (by decide), lo 6 (by decide) (by decide) (by decide), lo 7 (by decide) (by decide) (by decide), lo 11 (by decide) (by decide) (by decide), lo 12 (by decide) (by decide) (by decide), a0, a1, a2, a3, a4, a5, a6, a7, a8 11 (by decide), a8 12 (by decide), w11, w12]
  refine ⟨rfl, rfl, rfl, rfl, rfl, rfl, rfl, rfl, ?_, rfl, rfl, fun z => ?_, fun z => ?_⟩
  · rw [ii_up_k _ _ (by omega), ii_up_s]
  · rw [z, ii_up_s]
  · rw [z, ii_up_s]
/-- what the class keeps, a request more -/
theorem r_cl (hC : CL f a TS nb nr) (h4 : nb ≤ 4) (h30 : nr ≤ 30) (hn : nr < 30) : CL (ii_up (ii_up (nq_T (wi_T f nr x y u z m) nr) (300 + nr) 8 s8) (300 + nr) i9 u9) (fun o => if o = 300 + nr then ii_up (ii_up (nq_T (wi_T f nr x y u z m) nr) (300 + nr) 8 s8) (300 + nr) i9 u9 (300 + nr) else a o) TS nb (nr + 1) := by
  have hrow : ∀ o, o ≠ 300 + nr → o ≠ 301 + nr → ii_up (ii_up (nq_T (wi_T f nr x y u z m) nr) (300 + nr) 8 s8) (300 + nr) i9 u9 o = f o := fun o h1 h2 => by
    rw [ii_up_row _ _ h1, ii_up_row _ _ h1, nq_row h2, wi_row h1]
  have hw : ii_up (ii_up (nq_T (wi_T f nr x y u z m) nr) (300 + nr) 8 s8) (300 + nr) i9 u9 (300 + (nr + 1)) = fun i => if i = 10 then -1 else 0 := by
    rw [ii_up_row _ _ (by omega), ii_up_row _ _ (by omega)]
    funext i
    exact if_pos (by omega)
  obtain ⟨h1, h2, -⟩ := hC
  refine ⟨fun o ho => ?_, fun c hc => ts_same (h2 c hc) (hrow _ (by omega) (by omega)) (hrow _ (by omega) (by omega)), ?_⟩
  · by_cases e : o = 300 + nr
    · dsimp only
      rw [if_pos e, e]
    · dsimp only
      rw [if_neg e, hrow o e (by omega)]
      exact h1 o (by omega)
  · rw [hw]
    refine ⟨fun i hi => ?_, ⟨Int.le_refl _, by decide⟩, ⟨Int.le_refl _, by decide⟩, ⟨Int.le_refl _, by decide⟩, rfl, rfl, rfl, rfl, rfl⟩
    dsimp only
    rw [if_neg (show ¬ i = 10 by omega)]
    omega
theorem r_tr (hrow : ∀ o, o ≠ 300 + nr → A1 o = a o) (h8 : A1 (300 + nr) 8 ≠ 119 ∧ A1 (300 + nr) 8 ≠ 114) (h : tr a S nr b) : tr A1 S (nr + 1) b := by
  obtain ⟨t1, t2, t3⟩ := h
  refine ⟨t1, t2, fun q => ?_⟩
  rw [t3 q]
  by_cases e : q / 2 = nr
  · rw [e]
    exact ⟨fun z => by omega, fun z => by omega⟩
  · rw [hrow (300 + q / 2) (by omega)]
    exact ⟨fun z => ⟨by omega, z.2⟩, fun z => ⟨by omega, z.2⟩⟩
theorem r_tr2 (hrow : ∀ o, o ≠ 300 + nr → A1 o = a o) (h10 : A1 (300 + nr) 10 ≠ (b : Int)) (h : tr a S nr b) : tr A1 S (nr + 1) b := by
  obtain ⟨t1, t2, t3⟩ := h
  refine ⟨t1, t2, fun q => ?_⟩
  rw [t3 q]
  by_cases e : q / 2 = nr
  · rw [e]
    exact ⟨fun z => by omega, fun z => absurd z.2.1 h10⟩
  · rw [hrow (300 + q / 2) (by omega)]
    exact ⟨fun z => ⟨by omega, z.2⟩, fun z => ⟨by omega, z.2⟩⟩
theorem r_cg {lp lr : Int} (hC : CL f a TS nb nr) (hrow : ∀ o, o ≠ 300 + nr → A1 o = a o) (h0 : A1 (300 + nr) 0 = x) (h1 : A1 (300 + nr) 1 = y) (h2 : A1 (300 + nr) 2 = u) (h3 : A1 (300 + nr) 3 = z) (h4 : A1 (300 + nr) 4 = m) (h6 : A1 (300 + nr) 6 = lp) (h7 : A1 (300 + nr) 7 = lr) (h11 : A1 (300 + nr) 11 = 0) : cg (vw_f (vC f) nr x y u z m lp lr) (vC A1) (fun r => r < nr + 1) := by
  refine ⟨fun q hq => ?_, fun r hr => ?_⟩
  · rw [vw_0, vw_1]
    show pd_x A1 q = _ ∧ pd_y A1 q = _
    unfold pd_x pd_y
    by_cases e : q / 2 = nr
    · rw [if_pos e, if_pos e, e, h0, h1, h2, h3]
      exact ⟨rfl, rfl⟩
    · rw [if_neg e, if_neg e, hrow (300 + q / 2) (by omega), ← cl_req hC (show q / 2 < nr by dsimp only at hq; omega)]
      exact ⟨rfl, rfl⟩
  · rw [vw_2, vw_3, vw_4, vw_5]
    show A1 (300 + r) 4 = _ ∧ A1 (300 + r) 6 = _ ∧ A1 (300 + r) 7 = _ ∧ A1 (300 + r) 11 = f (300 + r) 11
    by_cases e : r = nr
    · rw [if_pos e, if_pos e, if_pos e, e, h4, h6, h7, h11, hC.2.2.2.2.2.2.2.2.2.1]
      exact ⟨rfl, rfl, rfl, rfl⟩
    · rw [if_neg e, if_neg e, if_neg e, hrow (300 + r) (by omega), ← cl_req hC (show r < nr by dsimp only at hr; omega)]
      exact ⟨rfl, rfl, rfl, rfl⟩
end RR
theorem z_request {l : Launch} {E : ab_E} {base : Nat} (hl : l.stackTraces = false) {ad : Nat → Nat} {f a : Nat → Nat → Int} {TS : Nat → List Nat} {nb nr : Nat} {tm : Int} {ol : Int64 × UInt64} (hI : IS f a TS nb nr tm) (x y u z m : Int) (zx : -2147483648 ≤ x ∧ x < 2147483648) (zy : -2147483648 ≤ y ∧ y < 2147483648) (zu : -2147483648 ≤ u ∧ u < 2147483648) (zz : -2147483648 ≤ z ∧ z < 2147483648) (zm : -2147483648 ≤ m ∧ m < 2147483648) : ZZ l E base yX9_request cX9_request 9 (some .int) yX10_request cX10_request 7 (some .int) ad f a TS nb nr tm ol [ii_v x, ii_v y, ii_v u, ii_v z, ii_v m] ["java/lang/IllegalArgumentException", "java/lang/UnsupportedOperationException", "java/lang/IllegalStateException"] := by
  obtain ⟨hC, hL, hS, htm⟩ := hI
  have hB := hS.1
  have h4 := hB.1
  have h30 := hB.2.1
  have h06 := hB.2.2.1
  by_cases h : (((0 ≤ x ∧ x ≤ 20) ∧ (0 ≤ y ∧ y ≤ 20)) ∧ ((0 ≤ u ∧ u ≤ 20) ∧ (0 ≤ z ∧ z ≤ 20)) ∧ 1 ≤ m ∧ m ≤ 6)
  · by_cases h2 : x = u ∧ y = z
    · refine ⟨2, 0, 0, a, TS, nb, nr, st_60 hS, fun _ => rfl, by decide, cz_T (x2_request hl f (nb, nr, ol) x y u z m zx zy zu zz zm h h2) (by decide) hC, fun ad1 g ol2 hC2 hL2 => ?_⟩
      have hh := n_request (E := E) (base := base) (ad := ad1) hl g (nb, nr, ol2) x y u z m zx zy zu zz zm (by rw [wc_2 h h2]; decide)
      rw [wc_2 h h2] at hh
      exact mz_R hh (by decide) hL2
    · have hwd := cl_wd (ol := ol) hC hB (by omega) (fun b hb => ⟨_, (hS.2 b hb).1⟩)
      have e06 := hC.1 0 (by omega)
      by_cases hn30 : nr = 30
      · refine ⟨3, 0, 0, a, TS, nb, nr, st_60 hS, fun _ => rfl, by decide, ⟨_, _, _, _, ⟨by decide, by decide, by decide⟩, x3_request hl f (nb, nr, ol) hwd x y u z m zx zy zu zz zm (by rw [e06]; omega) (by rw [e06]; exact hB.2.2.2.1) (by rw [e06]; exact hB.2.2.2.2.1) h h2 hn30, fun oc xx ad1 zz2 hP => ?_⟩, fun ad1 g ol2 hC2 hL2 => mz_R (n3_request hl g (nb, nr, ol2) x y u z m zx zy zu zz zm h h2 (by rw [hL2.1.1.2.1, hn30]; rfl)) (by decide) hL2⟩
        obtain ⟨q1, q2, q3, q4, q6⟩ := hP
        obtain ⟨w1, w2⟩ := q_wi hC hB htm h (g2 := zz2.1) (fun o2 _ _ _ _ _ _ => by rw [q6])
        subst q1 q2
        exact ⟨rfl, q3, q4, w1, w2, fun _ _ => rfl⟩
      have hn29 : nr < 30 := by omega
      obtain ⟨PC, ePC⟩ : ∃ PC : pa_S, PC = pa_b (vw_f (vC f) nr x y u z m (f 0 6 + f 0 8) (pd_d x y u z * (100 + f 0 7) / 100)) (fun b => f (200 + b)) TS nr (f 0 6) nb (-1, 0, 0, 1000000, 1) := ⟨_, rfl⟩
      obtain ⟨-, hpz⟩ := q_cl hC hS htm h (f 13 4) (f 13 5) (lp := f 0 6 + f 0 8) (lr := pd_d x y u z * (100 + f 0 7) / 100) (now := f 0 6)
      rw [← ePC] at hpz
      have hG : pa_G (vw_f (vC f) nr x y u z m (f 0 6 + f 0 8) (pd_d x y u z * (100 + f 0 7) / 100)) (fun b => f (200 + b)) TS nr (f 0 6) nb PC := by rw [ePC]; exact pa_0 0 0
      obtain ⟨hW, hG⟩ := hG
      have hml : ∀ g : Nat → Nat → Int, ML g a TS nb nr → pa_b (vw_f (vM g) nr x y u z m (g 40 32 + g 40 34) (pd_d x y u z * (100 + g 40 33) / 100)) (mB g nr) TS nr (g 40 32) nb (-1, 0, 0, 1000000, 1) = PC := fun g hg => by rw [ePC]; exact r_ml hC hg hS
      rcases hG with ⟨hp1, -⟩ | ⟨b, i, j, hb, hij, hjl, hp1, hp2, hp3, hpf, -⟩
      · obtain ⟨R0, eR0⟩ : ∃ R0, R0 = ii_up (ii_up (nq_T (wi_T f nr x y u z m) nr) (300 + nr) 8 120) (300 + nr) 9 PC.2.2.2.2 := ⟨_, rfl⟩
        obtain ⟨A1, eA1⟩ : ∃ A1 : Nat → Nat → Int, A1 = fun o => if o = 300 + nr then R0 (300 + nr) else a o := ⟨_, rfl⟩
        have hrow : ∀ o, o ≠ 300 + nr → A1 o = a o := fun o ho => by rw [eA1]; exact if_neg ho
        have hat : A1 (300 + nr) = R0 (300 + nr) := by rw [eA1]; exact if_pos rfl
        have hf := r_row hC (x := x) (y := y) (u := u) (z := z) (m := m) (s8 := 120) (i9 := 9) (u9 := PC.2.2.2.2) (by decide)
        rw [← eR0] at hf
        obtain ⟨r0, r1, r2, r3, r4, r5, r6, r7, r8, r11, r12, r9, -⟩ := hf
        have hok := wi_ok h (f := f) (by rw [e06]; exact hB.2.2.2.1)
        have hnew : rq A1 nb nr := by
          unfold rq
          rw [hat, hrow 0 (by omega), r0, r1, r2, r3, r4, r5, r6, r7, r8, r9 rfl, r11, r12, e06]
          rw [e06] at hok
          exact ⟨Or.inr (Or.inr (Or.inr (Or.inr rfl))), h.1.1, h.1.2, h.2.1.1, h.2.1.2, h.2.2, rfl, by have := hB.2.2.2.2.1; omega, by omega, fun _ => hW, fun hz => absurd rfl hz, by omega, by omega⟩
        have hB1 := bs_req hB hn29 hrow hnew (Or.inl (by rw [hat]; exact r8)) (TS1 := TS) (fun c hc => r_tr hrow (by rw [hat, r8]; decide) (hB.2.2.2.2.2.2.2.1 c hc)) (by omega)
        have hcg1 : cg (vC a) (vC A1) (fun r => r < nr) := vC_cg (fun r hr i _ => by rw [hrow (300 + r) (by omega)])
        have hST : ST A1 TS nb (nr + 1) tm := ⟨hB1, fun c hc => by rw [hrow 0 (by omega)]; exact pb_cg (tr_R (hB.2.2.2.2.2.2.2.1 c hc)) hcg1 (hrow _ (by omega)) (hS.2 c hc)⟩
        have hCR := r_cl hC hB.1 hB.2.1 hn29 (x := x) (y := y) (u := u) (z := z) (m := m) (s8 := 120) (i9 := 9) (u9 := PC.2.2.2.2)
        rw [← eR0, ← eA1] at hCR
        refine ⟨0, (nr : Int), (nr : Int), A1, TS, nb, nr + 1, st_60 hST, fun _ => rfl, by decide, ⟨_, _, _, _, ⟨by decide, by decide, by decide⟩, c_requestR hl f (nb, nr, ol) hwd x y u z m zx zy zu zz zm (by rw [e06]; omega) (by rw [e06]; exact hB.2.2.2.1) (by rw [e06]; exact hB.2.2.2.2.1) h h2 hn29 (by dsimp only; rw [hpz.1, hp1]; decide), fun oc xx ad1 zz2 hP => ?_⟩, fun ad1 g ol2 hC2 hL2 => ?_⟩
        · obtain ⟨q1, q2, ov, q3, q4, q5, q6⟩ := hP
          dsimp only at q5 q6
          rw [hpz.2.2.1, ← eR0] at q5
          obtain ⟨w1, w2⟩ := CL_s (g := zz2.1) hCR (fun o ho => q5 o (by omega) (by omega) (by omega) (by omega) (by omega) (by omega))
          refine ⟨q1, q2, by rw [q3, q4]; rfl, w1, fun o h1 h2 => (w2 o h1 h2).trans ?_, fun o ho => q6 o (by omega) (by omega)⟩
          rw [eR0, ii_up_row _ _ (by omega), ii_up_row _ _ (by omega), nq_row (by omega), wi_row (by omega)]
        · have hMq := m_request_x (E := E) (base := base) (ad := ad1) hl g (nb, nr + 1, ol2) (mr_pj hL2.1 hB (by omega)) nr hL2.1.1.2.1 h30 (mr_rid hL2.1 hB) nb hL2.1.1.1 h4 (q_T hL2 hS) (by rw [hL2.1.1.2.2.2.1]; omega) (by rw [hL2.1.1.2.2.2.2.1]; exact hB.2.2.2.1) (by rw [hL2.1.1.2.2.2.2.2]; exact hB.2.2.2.2.1) x y u z m zx zy zu zz zm h h2 hn29 PC.2.1 PC.2.2.1 PC.2.2.2.1 PC.2.2.2.2 (by rw [hml g hL2, ← hp1]) hW
          refine ⟨_, _, by decide, hMq, fun oc xx ad2 zz2 hP => ?_⟩
          obtain ⟨q1, q2, q3, ov, q4, q5, q6, q7, q8, q9⟩ := hP
          subst q1 q2
          obtain ⟨G, eG⟩ : ∃ G, G = ii_up (ii_up (ii_up (wm_T g nr x y u z m) 63 nr 120) 64 nr (sg_f PC.2.2.2.2)) 40 30 ((nr : Int) + 1) := ⟨_, rfl⟩
          rw [← eG] at q7
          have g1 : ∀ o, o ≠ 40 → (o < 53 ∨ 60 < o) → o ≠ 63 → o ≠ 64 → G o = g o := fun o z1 z2 z3 z4 => by rw [eG, ii_up_row _ _ z1, ii_up_row _ _ (by omega), ii_up_row _ _ z3, wm_row (by omega)]
          have g2 : ∀ o q, o ≠ 40 → q ≠ nr → G o q = g o q := fun o q z1 z2 => by
            have hu : ∀ (qq : Nat → Nat → Int) (k : Nat) (uu : Int), ii_up qq k nr uu o q = qq o q := fun qq k uu => by
              by_cases ez : o = k
              · rw [ez, ii_up_k _ _ z2]
              · rw [ii_up_o _ _ _ ez]
            rw [eG, ii_up_o _ _ _ z1, hu, hu, wm_oth z2]
          have g3 : ∀ i, i ≠ 30 → G 40 i = g 40 i := fun i z1 => by rw [eG, ii_up_k _ _ z1, ii_up_o _ _ _ (by decide), ii_up_o _ _ _ (by decide), wm_row (by decide)]
          have g4 : G 40 30 = (nr : Int) + 1 := by rw [eG, ii_up_s]
          obtain ⟨v0, v1, v2, v3, v4, v5, v6⟩ := wm_at (f := g) (r := nr) (x := x) (y := y) (u := u) (z := z) (n := m)
          have g5 : ∀ o, 53 ≤ o → o ≤ 59 → G o nr = wm_T g nr x y u z m o nr := fun o z1 z2 => by rw [eG, ii_up_o _ _ _ (by omega), ii_up_o _ _ _ (by omega), ii_up_o _ _ _ (by omega)]
          have hfq := hL2.1.2.2.2.2.1 nr (Nat.le_refl _) h30
          have h60 := hL2.1.2.2.2.2.2.1 nr h30
          have hR1 := mr_req (M := G) hL2.1 hn29 h4 hrow g1 g2 g3 g4 (by
            rw [g5 53 (by decide) (by decide), g5 54 (by decide) (by decide), g5 55 (by decide) (by decide), g5 56 (by decide) (by decide), g5 57 (by decide) (by decide), g5 58 (by decide) (by decide), g5 59 (by decide) (by decide), v0, v1, v2, v3, v4, v5, v6, hat, r0, r1, r2, r3, r4, r6, r7, r8, r11, r12, g1 61 (by decide) (by decide) (by decide) (by decide), g1 62 (by decide) (by decide) (by decide) (by decide), hL2.1.1.2.2.2.1, hL2.1.1.2.2.2.2.1, hL2.1.1.2.2.2.2.2, e06]
            refine ⟨⟨rfl, rfl, rfl, rfl, rfl, rfl, rfl⟩, ⟨?_, hfq.1, hfq.2.1⟩, fun hz => absurd rfl hz, fun _ => ?_⟩
            · rw [eG, ii_up_o _ _ _ (by decide), ii_up_o _ _ _ (by decide), ii_up_s]
            · rw [eG, ii_up_o _ _ _ (by decide), ii_up_s, r9 rfl]) (by rw [eG, ii_up_o _ _ _ (by decide), ii_up_o _ _ _ (by decide), ii_up_o _ _ _ (by decide), wm_row (by decide)]; exact h60)
          refine ⟨rfl, rfl, q3, by rw [q4, q5], ⟨mr_cong hR1 (fun o ho => q7.1 o (by omega) (by omega) (by omega) (by omega)) (fun i hi1 hi2 => q7.2 i (by omega) (by omega)), fun c hc => ?_, fun c hc hc4 => by rw [q8]; exact hL2.2.2 c hc hc4⟩, fun o ho => ?_, q6⟩
          · have := hL2.2.1 c hc
            unfold mt_I at this ⊢
            rw [q8, q9]
            exact this
          · rw [q7.1 o (by omega) (by omega) (by omega) (by omega)]
            exact g1 o (by omega) (by omega) (by omega) (by omega)
      · have hPCe : PC = ((b : Int), (i : Int), (j : Int), PC.2.2.2.1, PC.2.2.2.2) := by rw [← hp1, ← hp2, ← hp3]
        have hPCc := hpz.2.2.2 (by rw [hpz.1, hp1]; omega)
        have hpb := hS.2 b hb
        have htr := hB.2.2.2.2.2.2.2.1 b hb
        have hRb := tr_R htr
        obtain ⟨ne, hjo, hsl⟩ := hB.2.2.2.2.2.2.2.2.2
        have hle := sl_one (TS := TS) hb
        have n0 : ¬ 2 * nr ∈ TS b := fun hz => by have := hRb _ hz; omega
        have n1 : ¬ 2 * nr + 1 ∈ TS b := fun hz => by have := hRb _ hz; omega
        obtain ⟨L, eL⟩ : ∃ L, L = lay_f nr i j (TS b) 0 := ⟨_, rfl⟩
        obtain ⟨R0, eR0⟩ : ∃ R0, R0 = ii_up (ii_up (nq_T (wi_T f nr x y u z m) nr) (300 + nr) 8 119) (300 + nr) 10 (f (200 + b) 0) := ⟨_, rfl⟩
        obtain ⟨A1, eA1⟩ : ∃ A1 : Nat → Nat → Int, A1 = fun o => if o = 300 + nr then R0 (300 + nr) else a o := ⟨_, rfl⟩
        have hrow : ∀ o, o ≠ 300 + nr → A1 o = a o := fun o ho => by rw [eA1]; exact if_neg ho
        have hat : A1 (300 + nr) = R0 (300 + nr) := by rw [eA1]; exact if_pos rfl
        have hf := r_row hC (x := x) (y := y) (u := u) (z := z) (m := m) (s8 := 119) (i9 := 10) (u9 := f (200 + b) 0) (by decide)
        rw [← eR0] at hf
        obtain ⟨r0, r1, r2, r3, r4, r5, r6, r7, r8, r11, r12, -, r10⟩ := hf
        have r10 : R0 (300 + nr) 10 = (b : Int) := by rw [r10 rfl, cl_bus hC hb]; exact (hB.2.2.2.2.2.1 b hb).1
        have hok := wi_ok h (f := f) (by rw [e06]; exact hB.2.2.2.1)
        have hnew : rq A1 nb nr := by
          unfold rq
          rw [hat, hrow 0 (by omega), r0, r1, r2, r3, r4, r5, r6, r7, r8, r10, r11, r12, e06]
          rw [e06] at hok
          exact ⟨Or.inl rfl, h.1.1, h.1.2, h.2.1.1, h.2.1.2, h.2.2, rfl, by have := hB.2.2.2.2.1; omega, by omega, fun hz => by omega, fun _ => ⟨b, hb, rfl⟩, by omega, by omega⟩
        have hLmem : ∀ q, q ∈ L ↔ q = 2 * nr ∨ q = 2 * nr + 1 ∨ q ∈ TS b := fun q => by
          rw [eL]
          refine ⟨lay_mem (TS b) 0 q, fun hz => ?_⟩
          rcases hz with hz | hz | hz
          · rw [hz]; exact lay_r0 (TS b) 0 (by omega) (by omega)
          · rw [hz]; exact lay_r1 (TS b) 0 (by omega) (by omega)
          · exact lay_in (TS b) 0 q hz
        have hLR : ∀ q, q ∈ L → q / 2 < nr + 1 := fun q hq => by
          rcases (hLmem q).mp hq with hz | hz | hz
          · omega
          · omega
          · have := hRb q hz; omega
        have hLlen : L.length = (TS b).length + 2 := by rw [eL]; exact lay_length hij hjl 0 (Nat.le_refl _)
        have hsl2 := sl_set (TS := TS) (b := b) (S := L) nb
        rw [if_pos hb, if_pos hb, hLlen] at hsl2
        have hB1 := bs_req hB hn29 hrow hnew (Or.inr (by rw [hat]; exact r8)) (TS1 := tset TS b L) (fun c hc => by
          by_cases ec : c = b
          · subst ec
            rw [tset_s]
            refine ⟨by rw [eL]; exact lay_nd hij (TS c) 0 htr.1 n0 n1, by rw [eL]; exact lay_pk hij (TS c) 0 htr.2.1 n0 n1, fun q => ?_⟩
            rw [hLmem]
            by_cases eq : q / 2 = nr
            · rw [eq, hat, r10, r8]
              exact ⟨fun _ => ⟨by omega, rfl, Or.inl rfl⟩, fun _ => by omega⟩
            · by_cases eq2 : q / 2 < nr
              · rw [hrow (300 + q / 2) (by omega), htr.2.2 q]
                exact ⟨fun hz => by rcases hz with hz | hz | hz; omega; omega; exact ⟨by omega, hz.2⟩, fun hz => Or.inr (Or.inr ⟨eq2, hz.2⟩)⟩
              · exact ⟨fun hz => by rcases hz with hz | hz | hz; omega; omega; exact absurd (hRb q hz) eq2, fun hz => by omega⟩
          · rw [tset_o ec]
            exact r_tr2 hrow (by rw [hat, r10]; omega) (hB.2.2.2.2.2.2.2.1 c hc)) (by omega)
        have hcg1 : cg (vC a) (vC A1) (fun r => r < nr) := vC_cg (fun r hr i _ => by rw [hrow (300 + r) (by omega)])
        have hcg2 : cg (vw_f (vC f) nr x y u z m (f 0 6 + f 0 8) (pd_d x y u z * (100 + f 0 7) / 100)) (vC A1) (fun r => r < nr + 1) := r_cg hC hrow (by rw [hat]; exact r0) (by rw [hat]; exact r1) (by rw [hat]; exact r2) (by rw [hat]; exact r3) (by rw [hat]; exact r4) (by rw [hat]; exact r6) (by rw [hat]; exact r7) (by rw [hat]; exact r11)
        have hfb : fb A1 L b (A1 0 6) := by
          unfold fb
          rw [hrow 0 (by omega), hrow (200 + b) (by omega), cg_fault hcg2 hLR, eL]
          dsimp only at hpf
          rw [cl_bus hC hb, hC.1 0 (by omega)] at hpf
          rw [hC.1 0 (by omega)]
          exact hpf
        obtain ⟨k, ek⟩ : ∃ k, k = du_n (vC A1) (A1 (200 + b) 6) (A1 (200 + b) 7) L := ⟨_, rfl⟩
        have hST := st_due hb hB1 tset_s hfb (by rw [hrow 0 (by omega), hrow (200 + b) (by omega)]; exact hpb.2.2) (fun c hc hcb => by rw [tset_o hcb, hrow 0 (by omega)]; exact pb_cg (tr_R (hB.2.2.2.2.2.2.2.1 c hc)) hcg1 (hrow _ (by omega)) (hS.2 c hc)) k ek
        rw [tset_tset] at hST
        have hkf : du_n (vq_f (vw_f (vC f) nr x y u z m (f 0 6 + f 0 8) (pd_d x y u z * (100 + f 0 7) / 100)) (nr + 1)) (f (200 + b) 6) (f (200 + b) 7) L = k := by
          rw [ek, hrow (200 + b) (by omega), cl_bus hC hb]
          refine du_01 (fun q hq => ?_)
          have hq := hLR q hq
          obtain ⟨c0, c1⟩ := hcg2.1 q hq
          exact ⟨(if_neg (by omega)).trans c0.symm, (if_neg (by omega)).trans c1.symm⟩
        have hCR := r_cl hC hB.1 hB.2.1 hn29 (x := x) (y := y) (u := u) (z := z) (m := m) (s8 := 119) (i9 := 10) (u9 := f (200 + b) 0)
        rw [← eR0, ← eA1] at hCR
        have hC1 := c_request (E := E) (base := base) (ad := ad) hl f (nb, nr, ol) hwd x y u z m zx zy zu zz zm (by rw [e06]; omega) (by rw [e06]; exact hB.2.2.2.1) (by rw [e06]; exact hB.2.2.2.2.1) h h2 hn29 b i j PC.2.2.2.1 PC.2.2.2.2 (hPCc.trans hPCe) hb hij hjl ne (by rw [hC.1 4 (by omega)]; exact hjo.1) (by omega)
        dsimp only at hC1
        rw [← eL, hkf, ← eR0] at hC1
        refine ⟨0, (nr : Int), (nr : Int), _, _, nb, nr + 1, st_60 hST, fun _ => rfl, by decide, ⟨_, _, _, _, ⟨by decide, by decide, by decide⟩, hC1, fun oc xx ad1 zz2 hP => ?_⟩, fun ad1 g ol2 hC2 hL2 => ?_⟩
        · obtain ⟨q1, q2, ov, q3, q4, q5, q6, q7⟩ := hP
          have w1 := cl_of hCR hb h4 (by omega) q5 (fun q hq => hLR q (List.mem_of_mem_take hq)) R0 A1 hCR.1 (fun o ho => rfl) (fun o ho z1 z2 => q6 o (by omega) (by omega) (by omega) (by omega) (by omega) (by omega) z1 z2)
          refine ⟨q1, q2, by rw [q3, q4]; rfl, w1, fun o z1 z2 => ?_, fun o ho => q7 o (by omega) (by omega)⟩
          rw [q6 o (by omega) (by omega) (by omega) (by omega) (by omega) (by omega) (by omega) (by omega), md_row (by omega) (by omega) _ (fun q hq => by omega), eR0, ii_up_row _ _ (by omega), ii_up_row _ _ (by omega), nq_row (by omega), wi_row (by omega)]
        · have hMq := m_request (E := E) (base := base) (ad := ad1) hl g (nb, nr + 1, ol2) (mr_pj hL2.1 hB (by omega)) nr hL2.1.1.2.1 h30 (mr_rid hL2.1 hB) nb hL2.1.1.1 h4 (q_T hL2 hS) (by rw [hL2.1.1.2.2.2.1]; omega) (by rw [hL2.1.1.2.2.2.2.1]; exact hB.2.2.2.1) (by rw [hL2.1.1.2.2.2.2.2]; exact hB.2.2.2.2.1) x y u z m zx zy zu zz zm h h2 hn29 b i j PC.2.2.2.1 PC.2.2.2.2 ((hml g hL2).trans hPCe) hb hij hjl (by rw [← eL]; exact (fault_c.mp hfb).1) ne (by rw [hL2.1.1.2.2.1]; exact hjo.1) (by rw [← eL]; omega)
          have hm2 := hL2.1.2.1 b hb
          have hkg : du_n (vw_f (vM g) nr x y u z m (g 40 32 + g 40 34) (pd_d x y u z * (100 + g 40 33) / 100)) (g 44 b) (g 45 b) L = k := by
            rw [hL2.1.1.2.2.2.1, hL2.1.1.2.2.2.2.1, hL2.1.1.2.2.2.2.2, ek, hrow (200 + b) (by omega), hm2.2.2.2.1, hm2.2.2.2.2.1, ← e06]
            refine du_01 (fun q hq => ?_)
            have hq := hLR q hq
            obtain ⟨c0, c1⟩ := hcg2.1 q hq
            obtain ⟨d0, d1⟩ := (vw_cg (x := x) (y := y) (u := u) (z := z) (n := m) (lp := f 0 6 + f 0 8) (lr := pd_d x y u z * (100 + f 0 7) / 100) (cg_fm hC hL2) (r_5 hC hL2 h30)).1 q (by dsimp only; omega)
            exact ⟨d0.trans c0.symm, d1.trans c1.symm⟩
          rw [← eL, hkg] at hMq
          refine ⟨_, _, by decide, hMq, fun oc xx ad2 zz2 hP => ?_⟩
          obtain ⟨q1, q2, q3, ov, q4, q5, q6, q7, q8, q9, q10⟩ := hP
          subst q1 q2
          obtain ⟨G, eG⟩ : ∃ G, G = ii_up (ii_up (ii_up (wm_T g nr x y u z m) 63 nr 119) 60 nr (b : Int)) 40 30 ((nr : Int) + 1) := ⟨_, rfl⟩
          rw [← eG] at q7
          have g1 : ∀ o, o ≠ 40 → (o < 53 ∨ 60 < o) → o ≠ 63 → o ≠ 64 → G o = g o := fun o z1 z2 z3 z4 => by rw [eG, ii_up_row _ _ z1, ii_up_row _ _ (by omega), ii_up_row _ _ z3, wm_row (by omega)]
          have g2 : ∀ o q, o ≠ 40 → q ≠ nr → G o q = g o q := fun o q z1 z2 => by
            have hu : ∀ (qq : Nat → Nat → Int) (k : Nat) (uu : Int), ii_up qq k nr uu o q = qq o q := fun qq k uu => by
              by_cases ez : o = k
              · rw [ez, ii_up_k _ _ z2]
              · rw [ii_up_o _ _ _ ez]
            rw [eG, ii_up_o _ _ _ z1, hu, hu, wm_oth z2]
          have g3 : ∀ i, i ≠ 30 → G 40 i = g 40 i := fun i z1 => by rw [eG, ii_up_k _ _ z1, ii_up_o _ _ _ (by decide), ii_up_o _ _ _ (by decide), wm_row (by decide)]
          have g4 : G 40 30 = (nr : Int) + 1 := by rw [eG, ii_up_s]
          obtain ⟨v0, v1, v2, v3, v4, v5, v6⟩ := wm_at (f := g) (r := nr) (x := x) (y := y) (u := u) (z := z) (n := m)
          have g5 : ∀ o, 53 ≤ o → o ≤ 59 → G o nr = wm_T g nr x y u z m o nr := fun o z1 z2 => by rw [eG, ii_up_o _ _ _ (by omega), ii_up_o _ _ _ (by omega), ii_up_o _ _ _ (by omega)]
          have hfq := hL2.1.2.2.2.2.1 nr (Nat.le_refl _) h30
          have h60 := hL2.1.2.2.2.2.2.1 nr h30
          have hR1 := mr_req (M := G) hL2.1 hn29 h4 hrow g1 g2 g3 g4 (by
            rw [g5 53 (by decide) (by decide), g5 54 (by decide) (by decide), g5 55 (by decide) (by decide), g5 56 (by decide) (by decide), g5 57 (by decide) (by decide), g5 58 (by decide) (by decide), g5 59 (by decide) (by decide), v0, v1, v2, v3, v4, v5, v6, hat, r0, r1, r2, r3, r4, r6, r7, r8, r10, r11, r12, g1 61 (by decide) (by decide) (by decide) (by decide), g1 62 (by decide) (by decide) (by decide) (by decide), hL2.1.1.2.2.2.1, hL2.1.1.2.2.2.2.1, hL2.1.1.2.2.2.2.2, e06]
            refine ⟨⟨rfl, rfl, rfl, rfl, rfl, rfl, rfl⟩, ⟨?_, hfq.1, hfq.2.1⟩, fun _ => ?_, fun hz => by omega⟩
            · rw [eG, ii_up_o _ _ _ (by decide), ii_up_o _ _ _ (by decide), ii_up_s]
            · rw [eG, ii_up_o _ _ _ (by decide), ii_up_s]) (by rw [eG, ii_up_o _ _ _ (by decide), ii_up_s]; omega)
          obtain ⟨w1, w2⟩ := ml_of hR1 hB1 hb tset_s hfb ek q7 q8 q9 q10 (fun c hc hcb => by rw [tset_o hcb]; exact hL2.2.1 c hc) hL2.2.2 (fun o ho => g1 o (by omega) (by omega) (by omega) (by omega))
          rw [tset_tset] at w1
          exact ⟨rfl, rfl, q3, by rw [q4, q5], w1, w2, q6⟩
  · refine ⟨1, 0, 0, a, TS, nb, nr, st_60 hS, fun _ => rfl, by decide, cz_T (x_request hl f (nb, nr, ol) x y u z m zx zy zu zz zm h) (by decide) hC, fun ad1 g ol2 hC2 hL2 => ?_⟩
    have hh := n_request (E := E) (base := base) (ad := ad1) hl g (nb, nr, ol2) x y u z m zx zy zu zz zm (by rw [wc_1 h]; decide)
    rw [wc_1 h] at hh
    exact mz_R hh (by decide) hL2
