/-! The calls that change. -/
section AD
variable {f g g2 M a a1 : Nat → Nat → Int} {TS TS1 : Nat → List Nat} {nb nr b k : Nat} {tm : Int} {L : List Nat}
theorem st_due (hb : b < nb) (h : BS a1 TS1 nb nr tm) (hT : TS1 b = L) (hf : fb a1 L b (a1 0 6)) (hd : a1 (200 + b) 10 ≤ a1 0 6) (ho : ∀ c, c < nb → c ≠ b → pb a1 (TS1 c) c (a1 0 6)) (k : Nat) (hk : k = du_n (vC a1) (a1 (200 + b) 6) (a1 (200 + b) 7) L) : ST (md_T a1 b (L.take k)) (tset TS1 b (L.drop k)) nb nr tm := by
  obtain ⟨d1, d2, d3, d4, d5, d6, d7⟩ := bs_due hb L a1 TS1 h hT hf k hk
  refine ⟨d1, fun c hc => ?_⟩
  rw [d5]
  by_cases e : c = b
  · subst e
    rw [tset_s]
    refine ⟨d2, d3, ?_⟩
    rw [d6 10 (by decide)]
    exact hd
  · rw [tset_o e]
    exact d4 c hc e _ (ho c hc e)
theorem ml_of (hR : MR M a1 nb nr) (hB : BS a1 TS1 nb nr tm) (hb : b < nb) (hT1 : TS1 b = L) (hf : fb a1 L b (a1 0 6)) (hk : k = du_n (vC a1) (a1 (200 + b) 6) (a1 (200 + b) 7) L) (hE : me_E g2 (mm_D M b (L.take k))) (hT : mt_I g2 b (L.drop k)) (h51 : ∀ i, i ≠ b → g2 51 i = g 51 i) (h52 : ∀ i, i < 8 * b ∨ 8 * b + 8 ≤ i → g2 52 i = g 52 i)
    (hTo : ∀ c, c < nb → c ≠ b → mt_I g c (TS1 c)) (hF : ∀ c, nb ≤ c → c < 4 → g 51 c = 0) (hMk : ∀ o, o < 40 ∨ 84 < o → M o = g o) : ML g2 (md_T a1 b (L.take k)) (tset TS1 b (L.drop k)) nb nr ∧ kC g g2 := by
  have hR2 := mr_due hb L M a1 TS1 hB hT1 hf hR k hk
  refine ⟨⟨mr_cong hR2 (fun o ho => hE.1 o (by omega) (by omega) (by omega) (by omega)) (fun i hi1 hi2 => hE.2 i (by omega) (by omega)), fun c hc => ?_, fun c hc hc4 => by rw [h51 c (by omega)]; exact hF c hc hc4⟩, fun o ho => ?_⟩
  · by_cases e : c = b
    · rw [e, tset_s]; exact hT
    · rw [tset_o e]
      obtain ⟨t1, t2, t3, t4⟩ := hTo c hc e
      refine ⟨(h51 c e).trans t1, t2, fun j hj => ?_, t4⟩
      rw [h52 _ (by omega)]
      exact t3 j hj
  · rw [hE.1 o (by omega) (by omega) (by omega) (by omega), mm_Drow (by omega)]
    exact hMk o ho
end AD
theorem z_addBus {l : Launch} {E : ab_E} {base : Nat} (hl : l.stackTraces = false) {ad : Nat → Nat} {f a : Nat → Nat → Int} {TS : Nat → List Nat} {nb nr : Nat} {tm : Int} {ol : Int64 × UInt64} (hI : IS f a TS nb nr tm) (s0 c0 x y : Int) (zs0 : -2147483648 ≤ s0 ∧ s0 < 2147483648) (zc0 : -2147483648 ≤ c0 ∧ c0 < 2147483648) (zx : -2147483648 ≤ x ∧ x < 2147483648) (zy : -2147483648 ≤ y ∧ y < 2147483648) : ZZ l E base yX9_addBus cX9_addBus 6 (some .int) yX10_addBus cX10_addBus 5 (some .int) ad f a TS nb nr tm ol [ii_v s0, ii_v c0, ii_v x, ii_v y] ["java/lang/IllegalArgumentException", "java/lang/IllegalStateException"] := by
  obtain ⟨hC, hL, hS, htm⟩ := hI
  have hB := hS.1
  have h4 := hB.1
  have h30 := hB.2.1
  have h06 := hB.2.2.1
  by_cases hok : (1 ≤ s0 ∧ s0 ≤ 6) ∧ (20 ≤ c0 ∧ c0 ≤ 200) ∧ (0 ≤ x ∧ x ≤ 20) ∧ (0 ≤ y ∧ y ≤ 20)
  · by_cases hn : nb = 4
    · refine ⟨2, 0, 0, a, TS, nb, nr, st_60 hS, fun _ => rfl, by decide, cz_T (x2_addBus hl f (nb, nr, ol) s0 c0 x y zs0 zc0 zx zy hok hn) (by decide) hC, fun ad1 g ol2 hC2 hL2 => ?_⟩
      exact mz_R (n2_addBus hl g (nb, nr, ol2) s0 c0 x y zs0 zc0 zx zy hok (by rw [hL2.1.1.1, hn]; rfl)) (by decide) hL2
    · refine ⟨0, (nb : Int), (nb : Int), nb_T a nb s0 c0 x y, tset TS nb [], nb + 1, nr, st_60 (st_add hS (by omega) hok), fun _ => rfl, by decide, ⟨_, _, _, _, ⟨by decide, by decide, by decide⟩, c_addBus hl f (nb, nr, ol) s0 c0 x y zs0 zc0 zx zy hok (by dsimp only; omega) h30, fun oc xx ad1 zz2 hP => ?_⟩, fun ad1 g ol2 hC2 hL2 => ⟨_, _, by decide, m_addBus hl g (nb + 1, nr, ol2) s0 c0 x y zs0 zc0 zx zy hok nb hL2.1.1.1 (by omega), fun oc xx ad2 zz2 hP => ?_⟩⟩
      · obtain ⟨q1, q2, ov, q3, q4, q5, q6⟩ := hP
        obtain ⟨w1, w2⟩ := CL_add (s0 := s0) (c0 := c0) (x := x) (y := y) hC (by omega)
        dsimp only at q5 q6
        rw [← q5] at w1 w2
        refine ⟨q1, q2, by rw [q3, q4]; rfl, w1, w2, fun o ho => q6 o (by omega) (by omega)⟩
      · obtain ⟨q1, q2, q3, q4⟩ := hP
        subst q2 q3 q4
        refine ⟨rfl, rfl, rfl, q1, ML_add hL2 (by omega), fun o ho => ?_, ?_⟩
        · dsimp only
          rw [ii_up_row _ _ (by omega), ii_up_row _ _ (by omega), ii_up_row _ _ (by omega), ii_up_row _ _ (by omega), ii_up_row _ _ (by omega), ii_up_row _ _ (by omega), ii_up_row _ _ (by omega), ii_up_row _ _ (by omega), ii_up_row _ _ (by omega)]
        · simp [ii_up]
  · exact ⟨1, 0, 0, a, TS, nb, nr, st_60 hS, fun _ => rfl, by decide, cz_T (x_addBus hl f (nb, nr, ol) s0 c0 x y zs0 zc0 zx zy hok) (by decide) hC, fun ad1 g ol2 hC2 hL2 => mz_R (n_addBus hl g (nb, nr, ol2) s0 c0 x y zs0 zc0 zx zy hok) (by decide) hL2⟩
theorem z_cancel {l : Launch} {E : ab_E} {base : Nat} (hl : l.stackTraces = false) {ad : Nat → Nat} {f a : Nat → Nat → Int} {TS : Nat → List Nat} {nb nr : Nat} {tm : Int} {ol : Int64 × UInt64} (hI : IS f a TS nb nr tm) (i : Int) (zi : -2147483648 ≤ i ∧ i < 2147483648) : ZZ l E base yX9_cancel cX9_cancel 4 (some .int) yX10_cancel cX10_cancel 6 (some .int) ad f a TS nb nr tm ol [ii_v i] ["java/lang/IndexOutOfBoundsException", "java/lang/IllegalStateException"] := by
  obtain ⟨hC, hL, hS, htm⟩ := hI
  have hB := hS.1
  have h4 := hB.1
  have h30 := hB.2.1
  have h06 := hB.2.2.1
  by_cases hi : 0 ≤ i ∧ i < (nr : Int)
  · obtain ⟨r, rfl⟩ : ∃ r : Nat, i = (r : Int) := ⟨i.toNat, by omega⟩
    have hr : r < nr := by omega
    have hq := hB.2.2.2.2.2.2.1 r hr
    have hfr := cl_req hC hr
    by_cases hw : a (300 + r) 8 ≠ 119
    · refine ⟨2, 0, 0, a, TS, nb, nr, st_60 hS, fun _ => rfl, by decide, cz_T (x2_cancel hl f (nb, nr, ol) h30 r hr (by rw [hfr]; exact hq.1) (by rw [hfr]; exact hw)) (by decide) hC, fun ad1 g ol2 hC2 hL2 => ?_⟩
      have h30b := hL2.1.1.2.1
      obtain ⟨⟨m0, m1, m2, m3, m4, m5, m6⟩, ⟨m8, m11, m12⟩, m10, m9⟩ := hL2.1.2.2.2.1 r hr
      exact mz_R (n2_cancel hl g (nb, nr, ol2) r (by rw [h30b]; omega) (by rw [h30b]; omega) (by rw [m8]; exact hq.1) (by rw [m8]; exact hw)) (by decide) hL2
    have hw : a (300 + r) 8 = 119 := by omega
    obtain ⟨b, hb, hbq⟩ := hq.2.2.2.2.2.2.2.2.2.2.1 (by omega)
    have hpb := hS.2 b hb
    have htr := hB.2.2.2.2.2.2.2.1 b hb
    have hRb := tr_R htr
    obtain ⟨ne, hjo, hsl⟩ := hB.2.2.2.2.2.2.2.2.2
    have hle := sl_one (TS := TS) hb
    obtain ⟨A1, eA1⟩ : ∃ A1, A1 = ii_up a (300 + r) 8 99 := ⟨_, rfl⟩
    have hA0 : A1 0 = a 0 := by rw [eA1]; exact ii_up_row _ _ (by omega)
    have hAb : ∀ c, c < nb → A1 (200 + c) = a (200 + c) := fun c hc => by rw [eA1]; exact ii_up_row _ _ (by omega)
    have hAv : vC A1 = vC a := by rw [eA1]; exact vC_8
    have hB1 := bs_cancel hB hb hr hw hbq
    rw [← eA1] at hB1
    have hf1 : fb A1 (wo r (TS b)) b (A1 0 6) := by unfold fb; rw [hAv, hAb b hb, hA0]; exact fault_wo (by have := hq.2.2.2.2.2.1; show 0 ≤ a (300 + r) 4; omega) htr.1 htr.2.1 ((htr.2.2 _).mpr (by rw [show 2 * r / 2 = r by omega]; exact ⟨hr, hbq, Or.inl hw⟩)) ((htr.2.2 _).mpr (by rw [show (2 * r + 1) / 2 = r by omega]; exact ⟨hr, hbq, Or.inl hw⟩)) hpb.1
    obtain ⟨k, ek⟩ : ∃ k, k = du_n (vC A1) (A1 (200 + b) 6) (A1 (200 + b) 7) (wo r (TS b)) := ⟨_, rfl⟩
    have hST := st_due hb hB1 tset_s hf1 (by rw [hAb b hb, hA0]; exact hpb.2.2) (fun c hc hcb => by rw [tset_o hcb, hA0]; exact pb_row hAv (hAb c hc) (hS.2 c hc)) k ek
    rw [tset_tset] at hST
    have hkf : du_n (vC f) (f (200 + b) 6) (f (200 + b) 7) (wo r (TS b)) = k := by rw [ek, hAv, hAb b hb, cl_bus hC hb]; exact cg_du (cl_cg hC) _ _ (fun q hq => hRb q (wo_mem.mp hq).1)
    refine ⟨0, (b : Int), (b : Int), _, _, nb, nr, st_60 hST, fun _ => rfl, by decide, ⟨_, _, _, _, ⟨by decide, by decide, by decide⟩, c_cancel hl f (nb, nr, ol) h30 (cl_pe hC hB (by omega)) r hr (by rw [hfr]; exact hw) hb h4 (by rw [hfr]; exact hbq) (cl_pb hC hB hb (ch_0 hpb.1)) (hC.2.1 b hb) (fun j hj => Nat.le_of_lt (tr_q hB hb j hj)) (by rw [hC.1 0 (by omega)]; omega) ne (by rw [hC.1 4 (by omega)]; exact hjo.1) (by omega), fun oc xx ad1 zz2 hP => ?_⟩, fun ad1 g ol2 hC2 hL2 => ?_⟩
    · obtain ⟨q1, q2, q3, ov, q4, q5, q6, q7⟩ := hP
      rw [er_wo htr.1, hkf] at q6 q7
      subst q1 q2
      have hL : ∀ q, q ∈ (wo r (TS b)).take k → q / 2 < nr := fun q hq => hRb q (wo_mem.mp (List.mem_of_mem_take hq)).1
      refine ⟨rfl, q3, ?_, cl_of hC hb h4 h30 q6 hL (ii_up f (300 + r) 8 99) A1 (fun o ho => by rw [eA1]; exact up_cong (hC.1 o ho)) (fun o ho => ii_up_row _ _ (by omega)) (fun o _ h1 h2 => q7 o h1 h2), fun o h1 h2 => ?_, fun _ _ => rfl⟩
      · rw [q4, q5, cl_bus hC hb, (hB.2.2.2.2.2.1 b hb).1]
        rfl
      · rw [q7 o (by omega) (by omega), md_row (by omega) (by omega) _ (fun q hq => by omega), ii_up_row _ _ (by omega)]
    · have h30b := hL2.1.1.2.1
      obtain ⟨⟨m0, m1, m2, m3, m4, m5, m6⟩, ⟨m8, m11, m12⟩, m10, m9⟩ := hL2.1.2.2.2.1 r hr
      have hm2 := hL2.1.2.1 b hb
      have hkg : du_n (vM g) (g 44 b) (g 45 b) (wo r (TS b)) = k := by rw [ek, hAv, hAb b hb, hm2.2.2.2.1, hm2.2.2.2.2.1]; exact cg_du (mr_cg hL2.1) _ _ (fun q hq => hRb q (wo_mem.mp hq).1)
      refine ⟨_, _, by decide, m_cancel hl g (nb, nr, ol2) r (by rw [h30b]; omega) (by rw [h30b]; omega) (by rw [m8]; exact hw) b (by omega) (by rw [m10 (by omega)]; exact hbq) (mr_pj hL2.1 hB (by omega)) (mr_pk hL2.1 hB hb hpb.1) (hL2.2.1 b hb) (fault_c.mp hpb.1).1 (fun j hj => by have := tr_q hB hb j hj; omega) (by rw [hL2.1.1.2.2.2.1]; omega) ne (by rw [hL2.1.1.2.2.1]; exact hjo.1) (by omega), fun oc xx ad2 zz2 hP => ?_⟩
      obtain ⟨q1, q2, q3, ov, q4, q5, q6, q7, q8, q9, q10⟩ := hP
      rw [hkg] at q7 q8
      subst q1 q2
      have hR1 := mr_cancel hL2.1 hr h30 h4 hw
      rw [← eA1] at hR1
      obtain ⟨w1, w2⟩ := ml_of hR1 hB1 hb tset_s hf1 ek q7 q8 q9 q10 (fun c hc hcb => by rw [tset_o hcb]; exact hL2.2.1 c hc) hL2.2.2 (fun o ho => ii_up_row _ _ (by omega))
      rw [tset_tset] at w1
      exact ⟨rfl, rfl, q3, by rw [q4, q5], w1, w2, q6⟩
  · refine ⟨1, 0, 0, a, TS, nb, nr, st_60 hS, fun _ => rfl, by decide, cz_T (x_cancel hl f (nb, nr, ol) h30 i zi (by dsimp only; omega)) (by decide) hC, fun ad1 g ol2 hC2 hL2 => ?_⟩
    have h30b := hL2.1.1.2.1
    exact mz_R (n_cancel hl g (nb, nr, ol2) i zi (by rw [h30b]; omega) (by rw [h30b]; omega)) (by decide) hL2
theorem z_improve {l : Launch} {E : ab_E} {base : Nat} (hl : l.stackTraces = false) {ad : Nat → Nat} {f a : Nat → Nat → Int} {TS : Nat → List Nat} {nb nr : Nat} {tm : Int} {ol : Int64 × UInt64} (hI : IS f a TS nb nr tm) (i : Int) (zi : -2147483648 ≤ i ∧ i < 2147483648) : ZZ l E base yX9_improve cX9_improve 5 (some .int) yX10_improve cX10_improve 4 (some .int) ad f a TS nb nr tm ol [ii_v i] ["java/lang/IndexOutOfBoundsException"] := by
  obtain ⟨hC, hL, hS, htm⟩ := hI
  have hB := hS.1
  have h4 := hB.1
  have h30 := hB.2.1
  have h06 := hB.2.2.1
  by_cases hi : 0 ≤ i ∧ i < (nb : Int)
  · obtain ⟨b, rfl⟩ : ∃ b : Nat, i = (b : Int) := ⟨i.toNat, by omega⟩
    have hb : b < nb := by omega
    have hpb := hS.2 b hb
    have htr := hB.2.2.2.2.2.2.2.1 b hb
    have hRb := tr_R htr
    have hnd := htr.1
    have hS6 := (fault_c.mp hpb.1).1
    obtain ⟨ne, hjo, hsl⟩ := hB.2.2.2.2.2.2.2.2.2
    have hle := sl_one (TS := TS) hb
    have hfe : fe (vC a) (a (200 + b)) (a 0 6) (TS b) := ⟨pk_ah htr.2.1, hpb.1⟩
    obtain ⟨OM, eOM⟩ : ∃ OM : om_S, OM = om_f (vC a) (a (200 + b)) (a 0 6) (TS b) nr (TS b).length [] (-1, []) := ⟨_, rfl⟩
    have hom := om_first (n := nr) hnd (fun z hz => by have := hRb z hz; omega) hfe
    rw [← eOM] at hom
    have hpF := hom.1.1
    have hRF : ∀ q, q ∈ OM.2 → q / 2 < nr := fun q hq => hRb q ((hpF.2.2 q).mp hq)
    have hB1 := bs_order hB hb hpF (ah_pk hpF.2.1 hom.1.2.1)
    obtain ⟨k, ek⟩ : ∃ k, k = du_n (vC a) (a (200 + b) 6) (a (200 + b) 7) OM.2 := ⟨_, rfl⟩
    have hST := st_due hb hB1 tset_s hom.1.2.2 hpb.2.2 (fun c hc hcb => by rw [tset_o hcb]; exact hS.2 c hc) k ek
    rw [tset_tset] at hST
    refine ⟨0, (pl_len (vC a) (a (200 + b) 3) (a (200 + b) 4) (TS b) (a (200 + b) 6) (a (200 + b) 7) - OM.1), (pl_len (vC a) (a (200 + b) 3) (a (200 + b) 4) (TS b) (a (200 + b) 6) (a (200 + b) 7) - OM.1), _, _, nb, nr, st_60 hST, fun _ => rfl, by decide, ⟨_, _, _, _, ⟨by decide, by decide, by decide⟩, c_improve hl f (nb, nr, ol) h30 (cl_pe hC hB (by omega)) hb h4 (cl_pb hC hB hb (ch_0 hpb.1)) (hC.2.1 b hb) (fun j hj => Nat.le_of_lt (tr_q hB hb j hj)) hS6 hnd (by rw [hC.1 0 (by omega)]; omega) ne (by rw [hC.1 4 (by omega)]; exact hjo.1) (by omega), fun oc xx ad1 zz2 hP => ?_⟩, fun ad1 g ol2 hC2 hL2 => ?_⟩
    · obtain ⟨q1, q2, q3, ov, q4, O1, F, hO1, hpF2, hR, q5, q6, q7⟩ := hP
      rw [cl_bus hC hb, hC.1 0 (by omega)] at hR
      have hfe2 : fe (vC f) (a (200 + b)) (a 0 6) (TS b) := (cg_fe (cl_cg hC) bq_refl hRb).mpr hfe
      obtain ⟨b2, hmn⟩ := oe_first hnd hS6 (bs_9 hB hb).2 (fun q hq => by have := (hB.2.2.2.2.2.2.1 _ (hRb q hq)).2.2.2.2.2.1; show 0 ≤ f (300 + q / 2) 4; rw [cl_req hC (hRb q hq)]; omega) hfe2 hO1 hpF2 hR
      have hmn2 := cg_mn (cl_cg hC) bq_refl hRb hmn
      have huq := mn_one (fun G hG => hG.1.1) hmn2 hom
      have hlF : pl_len (vC f) (f (200 + b) 3) (f (200 + b) 4) F (f (200 + b) 6) (f (200 + b) 7) = OM.1 := by rw [cl_bus hC hb, cg_len (cl_cg hC) (by rw [huq.1]; exact hRF), hom.2.1, huq.1]; rfl
      rw [hlF, cl_bus hC hb, cg_len (cl_cg hC) hRb] at q5
      rw [huq.1, cl_bus hC hb, cg_du (cl_cg hC) _ _ hRF, ← ek] at q6 q7
      subst q1 q2
      refine ⟨rfl, q3, by rw [q4, q5]; rfl, cl_of hC hb h4 h30 q6 (fun q hq => hRF q (List.mem_of_mem_take hq)) f a (fun o ho => hC.1 o ho) (fun o ho => rfl) (fun o ho h1 h2 => q7 o (by omega) (by omega) (by omega) (by omega) (by omega) (by omega) (by omega) (by omega) h1 h2), fun o h1 h2 => ?_, fun _ _ => rfl⟩
      rw [q7 o (by omega) (by omega) (by omega) (by omega) (by omega) (by omega) (by omega) (by omega) (by omega) (by omega), md_row (by omega) (by omega) _ (fun q hq => by omega)]
    · have h29 := hL2.1.1.1
      have hm2 := hL2.1.2.1 b hb
      have hfe3 := (cg_fe (mr_cg hL2.1) (mr_bq hL2.1 hB hb) hRb).mpr hfe
      have hom3 := om_first (n := nr) hnd (fun z hz => by have := hRb z hz; omega) hfe3
      have hom2 := cg_mn (mr_cg hL2.1) (mr_bq hL2.1 hB hb) hRb hom3
      obtain ⟨OG, eOG⟩ : ∃ OG : om_S, OG = om_f (vM g) (mB g nr b) (g 40 32) (TS b) nr (TS b).length [] (-1, []) := ⟨_, rfl⟩
      have huq := mn_one (fun G hG => hG.1.1) hom2 hom
      rw [← hL2.1.1.2.2.2.1, ← eOG] at huq
      have hkg : du_n (vM g) (g 44 b) (g 45 b) OM.2 = k := by rw [ek, hm2.2.2.2.1, hm2.2.2.2.2.1]; exact cg_du (mr_cg hL2.1) _ _ hRF
      have hM := m_improve (E := E) (base := base) (ad := ad1) hl g (nb, nr, ol2) b (by rw [h29]; omega) (by rw [h29]; omega) (mr_pj hL2.1 hB (by omega)) (mr_pk hL2.1 hB hb hpb.1) (by rw [hL2.1.1.2.2.2.1]; omega) nr hL2.1.1.2.1 h30 (mr_rid hL2.1 hB) (hL2.2.1 b hb) hS6 (fun j hj => by have := tr_q hB hb j hj; omega) (by rw [← eOG, huq.2, hom.2.1]; exact ln_0 _) (by rw [← eOG, huq.1]; exact fun j hj => by have := hRF _ (gd_mem (d := 0) hj); omega) ne (by rw [hL2.1.1.2.2.1]; exact hjo.1) (by omega)
      rw [← eOG, huq.1, huq.2] at hM
      refine ⟨_, _, by decide, hM, fun oc xx ad2 zz2 hP => ?_⟩
      obtain ⟨q1, q2, q3, ov, q4, q5, q6, q7, q8, q9, q10⟩ := hP
      rw [hkg] at q7 q8
      subst q1 q2
      obtain ⟨w1, w2⟩ := ml_of hL2.1 hB1 hb tset_s hom.1.2.2 ek q7 q8 q9 q10 (fun c hc hcb => by rw [tset_o hcb]; exact hL2.2.1 c hc) hL2.2.2 (fun o ho => rfl)
      rw [tset_tset] at w1
      refine ⟨rfl, rfl, q3, ?_, w1, w2, q6⟩
      rw [q4, q5, hm2.2.2.2.1, hm2.2.2.2.2.1, hm2.2.2.2.2.2.1, hm2.2.2.2.2.2.2.1, cg_len (mr_cg hL2.1) hRb]
  · refine ⟨1, 0, 0, a, TS, nb, nr, st_60 hS, fun _ => rfl, by decide, cz_T (x_improve hl f (nb, nr, ol) h4 i zi (by dsimp only; omega)) (by decide) hC, fun ad1 g ol2 hC2 hL2 => ?_⟩
    have h29 := hL2.1.1.1
    exact mz_R (n_improve hl g (nb, nr, ol2) i zi (by rw [h29]; omega) (by rw [h29]; omega)) (by decide) hL2
