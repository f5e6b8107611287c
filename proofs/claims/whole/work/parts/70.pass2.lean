/-! A pass of the class and of the model. -/
/-- what is not the model's is kept -/
def kC (f g : Nat → Nat → Int) : Prop := ∀ o, o < 40 ∨ 84 < o → g o = f o
/-- what is the model's is kept -/
def kM (f g : Nat → Nat → Int) : Prop := ∀ o, 40 ≤ o → o ≤ 84 → g o = f o
theorem CL_k {f g a : Nat → Nat → Int} {TS : Nat → List Nat} {nb nr : Nat} (h : CL f a TS nb nr) (hk : kC f g) : CL g a TS nb nr := by
  obtain ⟨h1, h2, h3⟩ := h
  refine ⟨fun o ho => ?_, fun b hb => ts_same (h2 b hb) (hk _ (by omega)) (hk _ (by omega)), by rw [hk _ (by omega)]; exact h3⟩
  rw [hk o (by omega)]
  exact h1 o ho
theorem ML_k {f g a : Nat → Nat → Int} {TS : Nat → List Nat} {nb nr : Nat} (h : ML f a TS nb nr) (hk : kM f g) : ML g a TS nb nr := by
  obtain ⟨h1, h2, h3⟩ := h
  refine ⟨mr_cong h1 (fun o ho => hk o (by omega) (by omega)) (fun i _ _ => by rw [hk 40 (by omega) (by omega)]), fun b hb => ?_, fun b hb hb4 => by rw [hk 51 (by omega) (by omega)]; exact h3 b hb hb4⟩
  have := h2 b hb
  unfold mt_I at this ⊢
  rw [hk 51 (by omega) (by omega), hk 52 (by omega) (by omega)]
  exact this
section PS
variable {f g g2 a : Nat → Nat → Int} {TS : Nat → List Nat} {nb nr b : Nat} {tm t e0 : Int} {s : rs}
theorem ci_ok (hC : CL g s.1 s.2.1 nb nr) (hM : MI s b nb nr tm e0) (hb : b < nb) (htm : tm ≤ 100000) : ci_H g (vC g) nr b (s.2.1 b) ∧ ci_d g (vC g) b (s.2.1 b) = mn_d s b := by
  obtain ⟨⟨-, -, -, -⟩, -, hB2, hf2⟩ := mi_step hM hb
  have hB := hM.1
  have hpb := hM.2.1 b hb
  rw [if_neg (Nat.lt_irrefl _)] at hpb
  have h4 := hB.1
  have hhd : s.2.1 b ≠ [] → vC g 0 ((s.2.1 b).getD 0 0) = vC s.1 0 ((s.2.1 b).getD 0 0) ∧ vC g 1 ((s.2.1 b).getD 0 0) = vC s.1 1 ((s.2.1 b).getD 0 0) := fun hne => (cl_cg hC).1 _ (tr_q hB hb 0 (Nat.pos_of_ne_zero (fun z => hne (List.length_eq_zero_iff.mp z))))
  have hsp : sp_T g (vC g) b (s.2.1 b) (200 + b) = mn_a s b (200 + b) := sp_cong (cl_bus hC hb) hhd
  obtain ⟨ne, hjo, hsl⟩ := hB.2.2.2.2.2.2.2.2.2
  have hle : ne + (s.2.1 b).length ≤ 60 := by
    have := sl_set (TS := s.2.1) (b := b) (S := []) nb
    rw [if_pos hb, if_pos hb] at this
    have h0 : ([] : List Nat).length = 0 := rfl
    have h30 := hB.2.1
    omega
  refine ⟨⟨cl_pe hC hB htm, cl_pb hC hB hb (ch_0 hpb.1), hC.2.1 b hb, fun j hj => Nat.le_of_lt (tr_q hB hb j hj), ?_, ?_, ne, ?_, hle⟩, ?_⟩
  · rw [cl_bus hC hb]
    have := (hB.2.2.2.2.2.1 b hb).2.2.1
    omega
  · have := bu_pb hB2 hb (ch_0 hf2)
    unfold pb_B at this ⊢
    rw [hsp]
    exact this
  · rw [hC.1 4 (by omega)]
    exact hjo.1
  · show du_n (vC g) (sp_T g (vC g) b (s.2.1 b) (200 + b) 6) (sp_T g (vC g) b (s.2.1 b) (200 + b) 7) (s.2.1 b) = mn_d s b
    rw [hsp]
    exact cg_du (cl_cg hC) _ _ (tr_R (hB.2.2.2.2.2.2.2.1 b hb))
theorem ci_go (hC : CL g s.1 s.2.1 nb nr) (hM : MI s b nb nr tm e0) (hb : b < nb) (htm : tm ≤ 100000) (h : ci_P g (vC g) b (s.2.1 b) g2) : CL g2 (mn1 s b).1 (mn1 s b).2.1 nb nr ∧ kM g g2 := by
  have hB := hM.1
  have h4 := hB.1
  have h30 := hB.2.1
  have hd := (ci_ok hC hM hb htm).2
  obtain ⟨h1, h2⟩ := h
  rw [hd] at h1 h2
  have hhd : s.2.1 b ≠ [] → vC g 0 ((s.2.1 b).getD 0 0) = vC s.1 0 ((s.2.1 b).getD 0 0) ∧ vC g 1 ((s.2.1 b).getD 0 0) = vC s.1 1 ((s.2.1 b).getD 0 0) := fun hne => (cl_cg hC).1 _ (tr_q hB hb 0 (Nat.pos_of_ne_zero (fun z => hne (List.length_eq_zero_iff.mp z))))
  have hL : ∀ q, q ∈ (s.2.1 b).take (mn_d s b) → q / 2 < nr := fun q hq => tr_R (hB.2.2.2.2.2.2.2.1 b hb) q (List.mem_of_mem_take hq)
  refine ⟨cl_of hC hb h4 h30 h1 hL (sp_T g (vC g) b (s.2.1 b)) (mn_a s b) (fun o ho => ?_) (fun o ho => sp_row (by omega)) (fun o _ ho1 ho2 => h2 o ho1 ho2), fun o ho1 ho2 => ?_⟩
  · by_cases e : o = 200 + b
    · rw [e]; exact sp_cong (cl_bus hC hb) hhd
    · rw [sp_row e]
      show g o = sp_T s.1 (vC s.1) b (s.2.1 b) o
      rw [sp_row e]
      exact hC.1 o ho
  · rw [h2 o (by omega) (by omega), md_row (by omega) (by omega) _ (fun q hq => by omega), sp_row (by omega)]
theorem CL_tick (h : CL g a TS nb nr) : CL (ii_up g 0 6 (g 0 6 + 1)) (ii_up a 0 6 (a 0 6 + 1)) TS nb nr := by
  obtain ⟨h1, h2, h3⟩ := h
  refine ⟨fun o ho => ?_, fun b hb => ts_same (h2 b hb) (ii_up_row _ _ (by omega)) (ii_up_row _ _ (by omega)), by rw [ii_up_row _ _ (by omega)]; exact h3⟩
  rw [h1 0 (by omega)]
  exact up_cong (h1 o ho)
/-- the class after so many minutes and buses -/
def JC (f a : Nat → Nat → Int) (TS : Nat → List Nat) (nb nr n : Nat) : Nat → Nat → Int → (Nat → Nat → Int) → Prop := fun k b t g => k < n ∧ b ≤ nb ∧ t = (mnb (rn_ (a, TS, 0) nb k) b).2.2 ∧ CL g (mnb (rn_ (a, TS, 0) nb k) b).1 (mnb (rn_ (a, TS, 0) nb k) b).2.1 nb nr ∧ kM f g
theorem jt_b (h : ST a TS nb nr tm) (htm : tm ≤ 90000) {n k : Nat} (hn : n ≤ 60) (hk : k < n) (hb : b ≤ nb) : 0 ≤ (mnb (rn_ (a, TS, 0) nb k) b).2.2 ∧ (mnb (rn_ (a, TS, 0) nb k) b).2.2 ≤ 60 ∧ 0 ≤ (mnb (rn_ (a, TS, 0) nb k) b).1 0 6 ∧ (mnb (rn_ (a, TS, 0) nb k) b).1 0 6 ≤ 90060 := by
  obtain ⟨⟨h1, -, h3, h4⟩, h5⟩ := mi_all h hk hb
  obtain ⟨ne, hjo, hsl⟩ := h1.2.2.2.2.2.2.2.2.2
  obtain ⟨ne0, hjo0, -⟩ := h.1.2.2.2.2.2.2.2.2.2
  rw [hjo.1, hjo0.1] at h3
  have h30 := h1.2.1
  have h6 := h.1.2.2.1
  rw [h5]
  omega
theorem jc_0 (h : CL f a TS nb nr) {n : Nat} (hn : 0 < n) : JC f a TS nb nr n 0 0 0 (ii_up f 0 6 (f 0 6 + 1)) := ⟨hn, Nat.zero_le _, rfl, CL_tick h, fun o h1 h2 => ii_up_row _ _ (by omega)⟩
theorem jc_s (h : ST a TS nb nr tm) (htm : tm ≤ 90000) {n : Nat} (hn : n ≤ 60) (k b : Nat) (t : Int) (g : Nat → Nat → Int) (hb : b < nb) (hJ : JC f a TS nb nr n k b t g) : ∃ v S, ci_H g v nr b S ∧ ∀ g2, ci_P g v b S g2 → JC f a TS nb nr n k (b + 1) (t + ((ci_d g v b S : Nat) : Int)) g2 := by
  obtain ⟨j1, j2, j3, j4, j5⟩ := hJ
  have hM := (mi_all h j1 j2).1
  have h6 := h.1.2.2.1
  obtain ⟨c1, c2⟩ := ci_ok j4 hM hb (by omega)
  refine ⟨_, _, c1, fun g2 hg => ?_⟩
  obtain ⟨c3, c4⟩ := ci_go j4 hM hb (by omega) hg
  refine ⟨j1, hb, ?_, c3, fun o h1 h2 => (c4 o h1 h2).trans (j5 o h1 h2)⟩
  rw [c2, j3]
  rfl
theorem jc_n {n : Nat} (k : Nat) (t : Int) (g : Nat → Nat → Int) (hk : k + 1 < n) (hJ : JC f a TS nb nr n k nb t g) : JC f a TS nb nr n (k + 1) 0 t (ii_up g 0 6 (g 0 6 + 1)) := by
  obtain ⟨j1, j2, j3, j4, j5⟩ := hJ
  exact ⟨hk, Nat.zero_le _, j3, CL_tick j4, fun o h1 h2 => (ii_up_row _ _ (by omega)).trans (j5 o h1 h2)⟩
theorem sl_one {TS : Nat → List Nat} {nb b : Nat} (hb : b < nb) : (TS b).length ≤ sl TS nb := by
  have := sl_set (TS := TS) (b := b) (S := []) nb
  rw [if_pos hb, if_pos hb] at this
  have h0 : ([] : List Nat).length = 0 := rfl
  omega
/-- the model's minute -/
theorem mi_ok (hC : ML g s.1 s.2.1 nb nr) (hM : MI s b nb nr tm e0) (hb : b < nb) (htm : tm ≤ 100000) : mi_H g (vM g) nr b (s.2.1 b) ∧ mi_d g (vM g) nr b (s.2.1 b) = mn_d s b := by
  obtain ⟨⟨-, -, -, -⟩, -, hB2, hf2⟩ := mi_step hM hb
  have hB := hM.1
  have hpb := hM.2.1 b hb
  rw [if_neg (Nat.lt_irrefl _)] at hpb
  have h4 := hB.1
  have h30 := hB.2.1
  obtain ⟨hR, hT, -⟩ := hC
  have hR2 := mr_spend hR hB hb
  obtain ⟨ne, hjo, hsl⟩ := hB.2.2.2.2.2.2.2.2.2
  have hle := sl_one (TS := s.2.1) hb
  have hch := ch_0 hpb.1
  have hu := hB.2.2.2.2.2.1 b hb
  obtain ⟨-, -, u2, -⟩ := hu
  obtain ⟨m1, m2, m8, m6, m7, -⟩ := hR.2.1 b hb
  obtain ⟨-, -, -, n6, n7, -⟩ := hR2.2.1 b hb
  have hcg := mr_cg hR
  have hR3 := tr_R (hB.2.2.2.2.2.2.2.1 b hb)
  refine ⟨⟨mr_pj hR hB htm, mr_pk hR hB hb hpb.1, by omega, by omega, hR.1.2.1, h30, mr_rid hR hB, hT b hb, (fault_c.mp hpb.1).1, fun j hj => by have := tr_q hB hb j hj; omega, ?_, ne, ?_, by omega⟩, ?_⟩
  · rw [m6, m7, cg_du hcg _ _ hR3]
    exact hpb.2.1
  · rw [hR.1.2.2.1]
    exact hjo.1
  · show du_n (vM g) (sm_T g (vM g) nr b (s.2.1 b) 44 b) (sm_T g (vM g) nr b (s.2.1 b) 45 b) (s.2.1 b) = mn_d s b
    rw [n6, n7]
    exact cg_du hcg _ _ hR3
theorem mm_Drow {o : Nat} (h : o ≠ 40 ∧ (o < 61 ∨ 63 < o) ∧ (o < 65 ∨ 68 < o)) : ∀ {S : List Nat} {f : Nat → Nat → Int}, mm_D f b S o = f o
  | [], _ => rfl
  | q :: S, f => (mm_Drow h (S := S) (f := mm_T f b q)).trans (mm_row h)
theorem sm_row {v : Nat → Nat → Int} {n o : Nat} {S : List Nat} (h : (o < 43 ∨ 45 < o) ∧ (o < 48 ∨ 50 < o)) : sm_T g v n b S o = g o := by
  unfold sm_T
  split
  · split
    · exact dm_row h
    · exact ii_up_row _ _ (by omega)
  · exact dm_row h
theorem mi_go (hC : ML g s.1 s.2.1 nb nr) (hM : MI s b nb nr tm e0) (hb : b < nb) (htm : tm ≤ 100000) (h : mi_P g (vM g) nr b (s.2.1 b) g2) : ML g2 (mn1 s b).1 (mn1 s b).2.1 nb nr ∧ kC g g2 ∧ g2 40 0 = g 40 0 := by
  have hB := hM.1
  have h4 := hB.1
  have hd := (mi_ok hC hM hb htm).2
  obtain ⟨hR, hT, hF⟩ := hC
  obtain ⟨-, -, hB2, hf2⟩ := mi_step hM hb
  obtain ⟨h1, h2, h3, h5⟩ := h
  rw [hd] at h1 h2
  have hR2 := mr_spend hR hB hb
  have hv : vC (mn_a s b) = vC s.1 := sp_vC (by omega)
  have e06 : mn_a s b 0 = s.1 0 := sp_row (by omega)
  have hR3 := mr_due hb (s.2.1 b) _ (mn_a s b) s.2.1 hB2 rfl (by rw [e06]; exact hf2) hR2 (mn_d s b) (by rw [hv]; rfl)
  refine ⟨⟨mr_cong hR3 (fun o ho => h2 o (by omega) (by omega)) (fun i _ _ => by rw [h2 40 (by decide) (by decide)]), fun c hc => ?_, fun c hc hc4 => ?_⟩, fun o ho => ?_, ?_⟩
  · by_cases e : c = b
    · subst e
      show mt_I g2 c (tset s.2.1 c ((s.2.1 c).drop (mn_d s c)) c)
      rw [tset_s]
      exact h1
    · show mt_I g2 c (tset s.2.1 b ((s.2.1 b).drop (mn_d s b)) c)
      rw [tset_o e]
      obtain ⟨t1, t2, t3, t4⟩ := hT c hc
      refine ⟨(h3 c e).trans t1, t2, fun j hj => ?_, t4⟩
      rw [h5 _ (by omega)]
      exact t3 j hj
  · rw [h3 c (by omega)]
    exact hF c hc hc4
  · rw [h2 o (by omega) (by omega), mm_Drow (by omega), sm_row (by omega)]
  · rw [h2 40 (by decide) (by decide), mm_D0 (by decide), sm_row (by omega)]
theorem ML_tick (h : ML g a TS nb nr) : ML (ii_up g 40 32 (g 40 32 + 1)) (ii_up a 0 6 (a 0 6 + 1)) TS nb nr := by
  obtain ⟨hR, hT, hF⟩ := h
  have hm : ∀ o, o ≠ 40 → ii_up g 40 32 (g 40 32 + 1) o = g o := fun o ho => ii_up_row _ _ ho
  have hrow : ∀ o, o ≠ 0 → ii_up a 0 6 (a 0 6 + 1) o = a o := fun o ho => ii_up_row _ _ ho
  refine ⟨?_, fun b hb => ?_, fun b hb hb4 => by rw [hm 51 (by decide)]; exact hF b hb hb4⟩
  · obtain ⟨⟨m29, m30, m31, m32, m33, m34⟩, hbus, hfr, hreq, hfrq, h60, hent⟩ := hR
    refine ⟨⟨?_, ?_, ?_, ?_, ?_, ?_⟩, fun c hc => ?_, fun c hc hc4 => ?_, fun r hr => ?_, fun r hr hr30 => ?_, fun r hr => ?_, fun k hk => ?_⟩
    · rw [ii_up_k _ _ (by decide)]; exact m29
    · rw [ii_up_k _ _ (by decide)]; exact m30
    · rw [ii_up_k _ _ (by decide), hrow 4 (by decide)]; exact m31
    · rw [ii_up_s, ii_up_s, m32]
    · rw [ii_up_k _ _ (by decide), ii_up_k _ _ (by decide)]; exact m33
    · rw [ii_up_k _ _ (by decide), ii_up_k _ _ (by decide)]; exact m34
    · rw [hm 41 (by decide), hm 42 (by decide), hm 43 (by decide), hm 44 (by decide), hm 45 (by decide), hm 46 (by decide), hm 47 (by decide), hm 48 (by decide), hm 49 (by decide), hm 50 (by decide), hrow (200 + c) (by omega)]
      exact hbus c hc
    · rw [hm 48 (by decide), hm 49 (by decide), hm 50 (by decide)]
      exact hfr c hc hc4
    · rw [hm 53 (by decide), hm 54 (by decide), hm 55 (by decide), hm 56 (by decide), hm 57 (by decide), hm 58 (by decide), hm 59 (by decide), hm 60 (by decide), hm 61 (by decide), hm 62 (by decide), hm 63 (by decide), hm 64 (by decide), hrow (300 + r) (by omega)]
      exact hreq r hr
    · rw [hm 53 (by decide), hm 54 (by decide), hm 55 (by decide), hm 56 (by decide), hm 57 (by decide), hm 58 (by decide), hm 59 (by decide), hm 61 (by decide), hm 62 (by decide)]
      exact hfrq r hr hr30
    · rw [hm 60 (by decide)]
      exact h60 r hr
    · rw [hrow 4 (by decide)] at hk
      rw [hm 65 (by decide), hm 66 (by decide), hm 67 (by decide), hm 68 (by decide), hrow 5 (by decide), hrow 6 (by decide), hrow 7 (by decide), hrow 8 (by decide)]
      exact hent k hk
  · have := hT b hb
    unfold mt_I at this ⊢
    rw [hm 51 (by decide), hm 52 (by decide)]
    exact this
def JM (f a : Nat → Nat → Int) (TS : Nat → List Nat) (nb nr n : Nat) : Nat → Nat → Int → (Nat → Nat → Int) → Prop := fun k b t g => k < n ∧ b ≤ nb ∧ t = (mnb (rn_ (a, TS, 0) nb k) b).2.2 ∧ ML g (mnb (rn_ (a, TS, 0) nb k) b).1 (mnb (rn_ (a, TS, 0) nb k) b).2.1 nb nr ∧ kC f g ∧ g 40 0 = 0
theorem ML_0 {i : Nat} {u : Int} (h : ML g a TS nb nr) (hi : i < 29 ∨ 34 < i) : ML (ii_up g 40 i u) a TS nb nr := by
  obtain ⟨hR, hT, hF⟩ := h
  have hm : ∀ o, o ≠ 40 → ii_up g 40 i u o = g o := fun o ho => ii_up_row _ _ ho
  refine ⟨mr_cong hR (fun o ho => hm o (by omega)) (fun j hj1 hj2 => ii_up_k _ _ (by omega)), fun b hb => ?_, fun b hb hb4 => by rw [hm 51 (by decide)]; exact hF b hb hb4⟩
  have := hT b hb
  unfold mt_I at this ⊢
  rw [hm 51 (by decide), hm 52 (by decide)]
  exact this
theorem jm_0 (h : ML f a TS nb nr) {n : Nat} (hn : 0 < n) : JM f a TS nb nr n 0 0 0 (ii_up (ii_up f 40 0 0) 40 32 (f 40 32 + 1)) := by
  refine ⟨hn, Nat.zero_le _, rfl, ?_, fun o ho => (ii_up_row _ _ (by omega)).trans (ii_up_row _ _ (by omega)), ?_⟩
  · have h1 := ML_tick (ML_0 (i := 0) (u := 0) h (by decide))
    rw [ii_up_k _ _ (by decide)] at h1
    exact h1
  · rw [ii_up_k _ _ (by decide), ii_up_s]
theorem jm_s (h : ST a TS nb nr tm) (htm : tm ≤ 90000) {n : Nat} (hn : n ≤ 60) (k b : Nat) (t : Int) (g : Nat → Nat → Int) (hb : b < nb) (hJ : JM f a TS nb nr n k b t g) : ∃ v m S, mi_H g v m b S ∧ ∀ g2, mi_P g v m b S g2 → JM f a TS nb nr n k (b + 1) (t + ((mi_d g v m b S : Nat) : Int)) g2 := by
  obtain ⟨j1, j2, j3, j4, j5, j6⟩ := hJ
  have hM := (mi_all h j1 j2).1
  have h6 := h.1.2.2.1
  obtain ⟨c1, c2⟩ := mi_ok j4 hM hb (by omega)
  refine ⟨_, _, _, c1, fun g2 hg => ?_⟩
  obtain ⟨c3, c4, c5⟩ := mi_go j4 hM hb (by omega) hg
  refine ⟨j1, hb, ?_, c3, fun o ho => (c4 o ho).trans (j5 o ho), c5.trans j6⟩
  rw [c2, j3]
  rfl
theorem jm_n {n : Nat} (k : Nat) (t : Int) (g : Nat → Nat → Int) (hk : k + 1 < n) (hJ : JM f a TS nb nr n k nb t g) : JM f a TS nb nr n (k + 1) 0 t (ii_up g 40 32 (g 40 32 + 1)) := by
  obtain ⟨j1, j2, j3, j4, j5, j6⟩ := hJ
  exact ⟨hk, Nat.zero_le _, j3, ML_tick j4, fun o ho => (ii_up_row _ _ (by omega)).trans (j5 o ho), by rw [ii_up_k _ _ (by decide)]; exact j6⟩
end PS
