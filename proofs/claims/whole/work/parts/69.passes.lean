/-! A minute on both sides; the minutes of a pass. -/
section MR2
variable {f a : Nat → Nat → Int} {TS : Nat → List Nat} {nb nr b : Nat} {tm : Int}
theorem mr_due (hb : b < nb) : ∀ (S : List Nat) (f a : Nat → Nat → Int) (TS : Nat → List Nat) (_ : BS a TS nb nr tm) (_ : TS b = S) (_ : fb a S b (a 0 6)) (_ : MR f a nb nr) (k : Nat) (_ : k = du_n (vC a) (a (200 + b) 6) (a (200 + b) 7) S),
    MR (mm_D f b (S.take k)) (md_T a b (S.take k)) nb nr
  | [], f, a, TS, h, hT, hf, hm, k, hk => by
    have e : k = 0 := hk
    subst e
    exact hm
  | q :: S, f, a, TS, h, hT, hf, hm, k, hk => by
    rw [du_n] at hk
    by_cases hd : pd_d (a (200 + b) 6) (a (200 + b) 7) (vC a 0 q) (vC a 1 q) ≤ 0
    · rw [if_pos hd] at hk
      obtain ⟨h1, h2, h3, h4, h5, h6⟩ := bs_stop h hb hT hf hd
      have hTS := (h.2.2.2.2.2.2.2.1 b hb)
      rw [hT] at hTS
      obtain ⟨q1, -, q3⟩ := (hTS.2.2 q).mp List.mem_cons_self
      obtain ⟨ne, hjo, -⟩ := h.2.2.2.2.2.2.2.2.2
      have hm2 := mr_stop hm hb h.1 q1 (h.2.2.2.2.2.1 b hb).1 hjo.1 (by omega)
      have hdu : du_n (vC (mk_T a b q)) (mk_T a b q (200 + b) 6) (mk_T a b q (200 + b) 7) S = du_n (vC a) (a (200 + b) 6) (a (200 + b) 7) S := by
        rw [h5 6 (by decide), h5 7 (by decide)]
        refine du_01 (fun p hp => ?_)
        have hpn : p / 2 < nr := tr_R hTS p (List.mem_cons_of_mem _ hp)
        show pd_x (mk_T a b q) p = pd_x a p ∧ pd_y (mk_T a b q) p = pd_y a p
        unfold pd_x pd_y
        rw [h6 _ hpn 0 (by decide), h6 _ hpn 1 (by decide), h6 _ hpn 2 (by decide), h6 _ hpn 3 (by decide)]
        exact ⟨rfl, rfl⟩
      obtain ⟨k2, ek⟩ : ∃ k2, k2 = du_n (vC a) (a (200 + b) 6) (a (200 + b) 7) S := ⟨_, rfl⟩
      rw [← ek] at hk hdu
      subst hk
      exact mr_due hb S (mm_T f b q) (mk_T a b q) (tset TS b S) h1 tset_s (by rw [h4]; exact h2) hm2 k2 hdu.symm
    · rw [if_neg hd] at hk
      subst hk
      exact hm
theorem dm_o {n c o : Nat} {x y : Int} (hc : c ≠ b) : dm_T f n b x y o c = f o c := by
  have hu : ∀ (g : Nat → Nat → Int) (k : Nat) (u : Int), ii_up g k b u o c = g o c := fun g k u => by
    by_cases e : o = k
    · rw [e, ii_up_k _ _ hc]
    · rw [ii_up_o _ _ _ e]
  unfold dm_T dm_1
  split <;> split <;> simp only [hu]
theorem dm_1o {c o : Nat} {x y : Int} (ho : o < 44 ∨ 45 < o) : dm_1 f b x y o c = f o c := by
  unfold dm_1
  split
  · rw [ii_up_o _ _ _ (by omega)]
  · rw [ii_up_o _ _ _ (by omega)]
theorem dm_48 {n : Nat} {x y : Int} : dm_T f n b x y 48 b = f 48 b + 1 := by
  unfold dm_T
  split
  · rw [ii_up_o _ _ _ (by decide), ii_up_o _ _ _ (by decide), ii_up_s]
  · rw [ii_up_o _ _ _ (by decide), ii_up_s]
theorem dm_50 {n : Nat} {x y : Int} : dm_T f n b x y 50 b = f 50 b + ab_n f b n := by
  unfold dm_T
  split
  · rw [ii_up_o _ _ _ (by decide), ii_up_s]
  · rw [ii_up_s]
theorem dm_49 {n : Nat} {x y : Int} : dm_T f n b x y 49 b = if ab_n f b n = 0 then f 49 b + 1 else f 49 b := by
  unfold dm_T
  split
  · rw [ii_up_s]
  · rw [ii_up_o _ _ _ (by decide), ii_up_o _ _ _ (by decide), ii_up_o _ _ _ (by decide), dm_1o (by decide)]
theorem dr_o {o o2 : Nat} {x y : Int} (h : o2 ≠ o) : dr_T a o x y o2 = a o2 := dr_row h
theorem mr_drive (h : MR f a nb nr) (hB : BS a TS nb nr tm) (hb : b < nb) {x y : Int} : MR (dm_T f nr b x y) (dr_T a (200 + b) x y) nb nr := by
  have hab : ab_n f b nr = a (200 + b) 9 := by rw [mr_ob h nr (Nat.le_refl _)]; exact (hB.2.2.2.2.2.2.2.2.1 b hb).symm
  have h4 := hB.1
  have hrow : ∀ o, o ≠ 200 + b → dr_T a (200 + b) x y o = a o := fun o ho => dr_o ho
  have hm : ∀ o, (o < 43 ∨ 45 < o) → (o < 48 ∨ 50 < o) → dm_T f nr b x y o = f o := fun o h1 h2 => dm_row ⟨h1, h2⟩
  obtain ⟨hsc, hbus, hfr, hreq, hfrq, h60, hent⟩ := h
  refine ⟨?_, fun c hc => ?_, fun c hc hc4 => ?_, fun r hr => ?_, fun r hr hr30 => ?_, fun r hr => ?_, fun k hk => ?_⟩
  · rw [hm 40 (by decide) (by decide), hrow 4 (by omega), hrow 0 (by omega)]
    exact hsc
  · obtain ⟨m1, m2, m8, m6, m7, m3, m4, m10, m11, m12⟩ := hbus c hc
    rw [hm 41 (by decide) (by decide), hm 42 (by decide) (by decide), hm 46 (by decide) (by decide), hm 47 (by decide) (by decide)]
    by_cases e : c = b
    · subst e
      rw [dm_43, dm_44, dm_45, dm_48, dm_49, dm_50, hab, dr_lo (show 1 < 6 by decide), dr_lo (show 2 < 6 by decide), dr_lo (show 3 < 6 by decide), dr_lo (show 4 < 6 by decide), dr_8, dr_67 (Or.inl rfl), dr_67 (Or.inr rfl), dr1_6, dr1_7, dr_10, dr_11, dr_12, m1, m2, m8, m6, m7, m3, m4, m10, m11, m12]
      exact ⟨rfl, rfl, rfl, rfl, rfl, rfl, rfl, rfl, rfl, rfl⟩
    · rw [dm_o e, dm_o e, dm_o e, dm_o e, dm_o e, dm_o e, hrow (200 + c) (by omega)]
      exact hbus c hc
  · rw [dm_o (by omega), dm_o (by omega), dm_o (by omega)]
    exact hfr c hc hc4
  · rw [hm 53 (by decide) (by decide), hm 54 (by decide) (by decide), hm 55 (by decide) (by decide), hm 56 (by decide) (by decide), hm 57 (by decide) (by decide), hm 58 (by decide) (by decide), hm 59 (by decide) (by decide), hm 60 (by decide) (by decide), hm 61 (by decide) (by decide), hm 62 (by decide) (by decide), hm 63 (by decide) (by decide), hm 64 (by decide) (by decide), hrow (300 + r) (by omega)]
    exact hreq r hr
  · rw [hm 53 (by decide) (by decide), hm 54 (by decide) (by decide), hm 55 (by decide) (by decide), hm 56 (by decide) (by decide), hm 57 (by decide) (by decide), hm 58 (by decide) (by decide), hm 59 (by decide) (by decide), hm 61 (by decide) (by decide), hm 62 (by decide) (by decide)]
    exact hfrq r hr hr30
  · rw [hm 60 (by decide) (by decide)]
    exact h60 r hr
  · rw [hrow 4 (by omega)] at hk
    rw [hm 65 (by decide) (by decide), hm 66 (by decide) (by decide), hm 67 (by decide) (by decide), hm 68 (by decide) (by decide), hrow 5 (by omega), hrow 6 (by omega), hrow 7 (by omega), hrow 8 (by omega)]
    exact hent k hk
theorem mr_charge (h : MR f a nb nr) (h4 : nb ≤ 4) (hb : b < nb) {u : Int} : MR (ii_up f 43 b u) (ii_up a (200 + b) 8 u) nb nr := by
  have hrow : ∀ o, o ≠ 200 + b → ii_up a (200 + b) 8 u o = a o := fun o ho => ii_up_row _ _ ho
  have hm : ∀ o, o ≠ 43 → ii_up f 43 b u o = f o := fun o ho => ii_up_row _ _ ho
  obtain ⟨hsc, hbus, hfr, hreq, hfrq, h60, hent⟩ := h
  refine ⟨?_, fun c hc => ?_, fun c hc hc4 => ?_, fun r hr => ?_, fun r hr hr30 => ?_, fun r hr => ?_, fun k hk => ?_⟩
  · rw [hm 40 (by decide), hrow 4 (by omega), hrow 0 (by omega)]
    exact hsc
  · obtain ⟨m1, m2, m8, m6, m7, m3, m4, m10, m11, m12⟩ := hbus c hc
    rw [hm 41 (by decide), hm 42 (by decide), hm 44 (by decide), hm 45 (by decide), hm 46 (by decide), hm 47 (by decide), hm 48 (by decide), hm 49 (by decide), hm 50 (by decide)]
    by_cases e : c = b
    · subst e
      rw [ii_up_s, ii_up_s, ii_up_k _ _ (show 1 ≠ 8 by decide), ii_up_k _ _ (show 2 ≠ 8 by decide), ii_up_k _ _ (show 3 ≠ 8 by decide), ii_up_k _ _ (show 4 ≠ 8 by decide), ii_up_k _ _ (show 6 ≠ 8 by decide), ii_up_k _ _ (show 7 ≠ 8 by decide), ii_up_k _ _ (show 10 ≠ 8 by decide), ii_up_k _ _ (show 11 ≠ 8 by decide), ii_up_k _ _ (show 12 ≠ 8 by decide)]
      exact ⟨m1, m2, rfl, m6, m7, m3, m4, m10, m11, m12⟩
    · rw [ii_up_k _ _ e, hrow (200 + c) (by omega)]
      exact hbus c hc
  · rw [hm 48 (by decide), hm 49 (by decide), hm 50 (by decide)]
    exact hfr c hc hc4
  · rw [hm 53 (by decide), hm 54 (by decide), hm 55 (by decide), hm 56 (by decide), hm 57 (by decide), hm 58 (by decide), hm 59 (by decide), hm 60 (by decide), hm 61 (by decide), hm 62 (by decide), hm 63 (by decide), hm 64 (by decide), hrow (300 + r) (by omega)]
    exact hreq r hr
  · rw [hm 53 (by decide), hm 54 (by decide), hm 55 (by decide), hm 56 (by decide), hm 57 (by decide), hm 58 (by decide), hm 59 (by decide), hm 61 (by decide), hm 62 (by decide)]
    exact hfrq r hr hr30
  · rw [hm 60 (by decide)]
    exact h60 r hr
  · rw [hrow 4 (by omega)] at hk
    rw [hm 65 (by decide), hm 66 (by decide), hm 67 (by decide), hm 68 (by decide), hrow 5 (by omega), hrow 6 (by omega), hrow 7 (by omega), hrow 8 (by omega)]
    exact hent k hk
theorem mr_spend (h : MR f a nb nr) (hB : BS a TS nb nr tm) (hb : b < nb) : MR (sm_T f (vM f) nr b (TS b)) (sp_T a (vC a) b (TS b)) nb nr := by
  obtain ⟨m1, m2, m8, m6, m7, m3, m4, -⟩ := h.2.1 b hb
  unfold sm_T sp_T
  by_cases hS : TS b = []
  · rw [if_pos hS, if_pos hS, m3, m4, m6, m7, m2, m8]
    split
    · exact mr_drive h hB hb
    · exact mr_charge h hB.1 hb
  · rw [if_neg hS, if_neg hS]
    have hq : (TS b).getD 0 0 / 2 < nr := tr_q hB hb 0 (Nat.pos_of_ne_zero (fun z => hS (List.length_eq_zero_iff.mp z)))
    obtain ⟨e0, e1⟩ := (mr_cg h).1 _ hq
    rw [e0, e1]
    exact mr_drive h hB hb
end MR2
/-! the class's rows -/
theorem mk_cong3 {f g : Nat → Nat → Int} {b q : Nat} {P : Nat → Prop} (h0 : P 0) (h4 : P 4) (hb : P (200 + b)) (hq : P (300 + q / 2)) (h : ∀ o, P o → g o = f o) (o : Nat) (ho : P o) : mk_T g b q o = mk_T f b q o := by
  unfold mk_T
  rw [h 4 h4, h 0 h0, h (200 + b) hb, h (300 + q / 2) hq]
  refine up_cong (up_cong (up_cong (up_cong (up_cong ?_))))
  split
  · exact up_cong (up_cong (up_cong (h o ho)))
  · exact up_cong (up_cong (up_cong (h o ho)))
theorem md_cong3 {b : Nat} {P : Nat → Prop} (h0 : P 0) (h4 : P 4) (hb : P (200 + b)) : ∀ (S : List Nat) {f g : Nat → Nat → Int} (_ : ∀ q, q ∈ S → P (300 + q / 2)) (_ : ∀ o, P o → g o = f o) (o : Nat) (_ : P o), md_T g b S o = md_T f b S o
  | [], _, _, _, h, o, ho => h o ho
  | q :: S, _, _, hq, h, o, ho => md_cong3 h0 h4 hb S (fun p hp => hq p (List.mem_cons_of_mem _ hp)) (fun o2 ho2 => mk_cong3 h0 h4 hb (hq q List.mem_cons_self) h o2 ho2) o ho
theorem md_row {b o : Nat} (h : o ≤ 3 ∨ 9 ≤ o) (hb : o ≠ 200 + b) : ∀ (S : List Nat) {f : Nat → Nat → Int} (_ : ∀ q, q ∈ S → o ≠ 300 + q / 2), md_T f b S o = f o
  | [], _, _ => rfl
  | q :: S, f, hq => (md_row h hb S (f := mk_T f b q) (fun p hp => hq p (List.mem_cons_of_mem _ hp))).trans (mk_row h hb (hq q List.mem_cons_self))
theorem md_44 {b : Nat} : ∀ (S : List Nat) (f : Nat → Nat → Int), md_T f b S 4 4 = f 4 4 + (S.length : Int)
  | [], f => by show f 4 4 = f 4 4 + 0; omega
  | q :: S, f => by
    have h1 := md_44 (b := b) S (mk_T f b q)
    rw [mk_44] at h1
    show md_T (mk_T f b q) b S 4 4 = _
    rw [h1, List.length_cons]
    omega
theorem du_le {v : Nat → Nat → Int} {x y : Int} : ∀ S : List Nat, du_n v x y S ≤ S.length
  | [] => Nat.le_refl _
  | q :: S => by
    have := du_le (v := v) (x := x) (y := y) S
    rw [du_n]
    split <;> simp only [List.length_cons] <;> omega
section CLM
variable {f g a a2 : Nat → Nat → Int} {TS : Nat → List Nat} {nb nr b : Nat} {tm : Int} {S : List Nat}
theorem sp_cong {v v2 : Nat → Nat → Int} (hr : g (200 + b) = a (200 + b)) (hv : S ≠ [] → v2 0 (S.getD 0 0) = v 0 (S.getD 0 0) ∧ v2 1 (S.getD 0 0) = v 1 (S.getD 0 0)) : sp_T g v2 b S (200 + b) = sp_T a v b S (200 + b) := by
  have hd : ∀ x y, dr_T g (200 + b) x y (200 + b) = dr_T a (200 + b) x y (200 + b) := fun x y => by
    have h1 : dr_1 g (200 + b) x y (200 + b) = dr_1 a (200 + b) x y (200 + b) := by
      unfold dr_1
      rw [hr]
      split
      · exact up_cong hr
      · exact up_cong hr
    unfold dr_T
    rw [hr]
    split
    · exact up_cong (up_cong (up_cong (up_cong h1)))
    · exact up_cong (up_cong (up_cong h1))
  unfold sp_T
  rw [hr]
  by_cases hS : S = []
  · rw [if_pos hS, if_pos hS]
    split
    · exact hd _ _
    · exact up_cong hr
  · obtain ⟨e0, e1⟩ := hv hS
    rw [if_neg hS, if_neg hS, e0, e1]
    exact hd _ _
/-- what the class keeps, the tour of b anew -/
theorem cl_of (h : CL f a TS nb nr) (hb : b < nb) (h4 : nb ≤ 4) (h30 : nr ≤ 30) {L : List Nat} (hts : ts_I g (200 + b + 10) S) (hL : ∀ q, q ∈ L → q / 2 < nr) (f1 a1 : Nat → Nat → Int) (hf1 : ∀ o, (o = 0 ∨ (4 ≤ o ∧ o ≤ 8) ∨ (200 ≤ o ∧ o < 200 + nb) ∨ (300 ≤ o ∧ o < 300 + nr)) → f1 o = a1 o) (hf2 : ∀ o, (210 ≤ o ∧ o < 230) ∨ o = 300 + nr → f1 o = f o)
    (hg : ∀ o, (o = 0 ∨ (4 ≤ o ∧ o ≤ 8) ∨ (200 ≤ o ∧ o < 200 + nb) ∨ (300 ≤ o ∧ o < 300 + nr) ∨ (210 ≤ o ∧ o < 230) ∨ o = 300 + nr) → o ≠ 200 + b + 10 → o ≠ 200 + b + 10 + 10 → g o = md_T f1 b L o) : CL g (md_T a1 b L) (tset TS b S) nb nr := by
  obtain ⟨h1, h2, h3⟩ := h
  have hw : g (300 + nr) = f (300 + nr) := by
    rw [hg _ (by omega) (by omega) (by omega), md_row (by omega) (by omega) L (fun q hq => by have := hL q hq; omega), hf2 _ (by omega)]
  refine ⟨fun o ho => ?_, fun c hc => ?_, by rw [hw]; exact h3⟩
  · rw [hg o (by omega) (by omega) (by omega)]
    exact md_cong3 (P := fun o => (o = 0 ∨ (4 ≤ o ∧ o ≤ 8) ∨ (200 ≤ o ∧ o < 200 + nb) ∨ (300 ≤ o ∧ o < 300 + nr))) (by omega) (by omega) (by omega) L (fun q hq => by have := hL q hq; omega) hf1 o ho
  · by_cases e : c = b
    · rw [e, tset_s]; exact hts
    · rw [tset_o e]
      refine ts_same (h2 c hc) ?_ ?_
      · rw [hg _ (by omega) (by omega) (by omega), md_row (by omega) (by omega) L (fun q hq => by have := hL q hq; omega), hf2 _ (by omega)]
      · rw [hg _ (by omega) (by omega) (by omega), md_row (by omega) (by omega) L (fun q hq => by have := hL q hq; omega), hf2 _ (by omega)]
end CLM
section RUN
abbrev rs : Type := (Nat → Nat → Int) × (Nat → List Nat) × Int
/-- the minute of the bus b -/
def mn_a (s : rs) (b : Nat) : Nat → Nat → Int := sp_T s.1 (vC s.1) b (s.2.1 b)
def mn_d (s : rs) (b : Nat) : Nat := du_n (vC s.1) (mn_a s b (200 + b) 6) (mn_a s b (200 + b) 7) (s.2.1 b)
def mn1 (s : rs) (b : Nat) : rs := (md_T (mn_a s b) b ((s.2.1 b).take (mn_d s b)), tset s.2.1 b ((s.2.1 b).drop (mn_d s b)), s.2.2 + (mn_d s b : Int))
def mnb (s : rs) : Nat → rs
  | 0 => s
  | b + 1 => mn1 (mnb s b) b
/-- the clock goes on -/
def tk (s : rs) : rs := (ii_up s.1 0 6 (s.1 0 6 + 1), s.2.1, s.2.2)
def rn_ (s : rs) (nb : Nat) : Nat → rs
  | 0 => tk s
  | k + 1 => tk (mnb (rn_ s nb k) nb)
/-- within a minute, b buses done -/
def MI (s : rs) (b nb nr : Nat) (tm e0 : Int) : Prop := BS s.1 s.2.1 nb nr tm ∧ (∀ c, c < nb → pb s.1 (s.2.1 c) c (if c < b then s.1 0 6 else s.1 0 6 - 1)) ∧ s.1 4 4 = e0 + s.2.2 ∧ 0 ≤ s.2.2
variable {s : rs} {b nb nr : Nat} {tm e0 : Int}
theorem sp_vC {a : Nat → Nat → Int} {S : List Nat} (hb : b ≤ 90) : vC (sp_T a (vC a) b S) = vC a := vC_rows (fun o ho => sp_row (by omega))
theorem mi_step (h : MI s b nb nr tm e0) (hb : b < nb) : MI (mn1 s b) (b + 1) nb nr tm e0 ∧ (mn1 s b).1 0 = s.1 0 ∧ BS (mn_a s b) s.2.1 nb nr tm ∧ fb (mn_a s b) (s.2.1 b) b (s.1 0 6) := by
  obtain ⟨h1, h2, h3, h4⟩ := h
  have hb4 := h1.1
  have hpb := h2 b hb
  rw [if_neg (Nat.lt_irrefl _)] at hpb
  obtain ⟨g1, g2, g3⟩ := bs_spend h1 hb hpb
  have hrow : ∀ o, o ≠ 200 + b → mn_a s b o = s.1 o := fun o ho => sp_row ho
  have hv : vC (mn_a s b) = vC s.1 := sp_vC (by omega)
  have e06 : mn_a s b 0 = s.1 0 := hrow 0 (by omega)
  have hk : mn_d s b = du_n (vC (mn_a s b)) (mn_a s b (200 + b) 6) (mn_a s b (200 + b) 7) (s.2.1 b) := by
    rw [hv]
    rfl
  obtain ⟨d1, d2, d3, d4, d5, d6, d7⟩ := bs_due hb (s.2.1 b) (mn_a s b) s.2.1 g1 rfl (by rw [e06]; exact g2) (mn_d s b) hk
  have e0' : (mn1 s b).1 0 = s.1 0 := d5.trans e06
  refine ⟨⟨d1, fun c hc => ?_, ?_, ?_⟩, e0', g1, g2⟩
  · have e6 : (mn1 s b).1 0 6 = s.1 0 6 := congrFun e0' 6
    rw [e6]
    show pb (md_T (mn_a s b) b ((s.2.1 b).take (mn_d s b))) (tset s.2.1 b ((s.2.1 b).drop (mn_d s b)) c) c _
    by_cases e : c = b
    · subst e
      rw [tset_s, if_pos (Nat.lt_succ_self _)]
      refine ⟨?_, d3, ?_⟩
      · rw [e06] at d2
        exact d2
      · rw [d6 10 (by decide)]
        exact g3
    · rw [tset_o e]
      have h5 := h2 c hc
      have h6 : (if c < b + 1 then s.1 0 6 else s.1 0 6 - 1) = if c < b then s.1 0 6 else s.1 0 6 - 1 := by
        by_cases h7 : c < b
        · rw [if_pos h7, if_pos (by omega)]
        · rw [if_neg h7, if_neg (by omega)]
      rw [h6]
      exact d4 c hc e _ (pb_row hv (hrow _ (by omega)) h5)
  · show md_T (mn_a s b) b ((s.2.1 b).take (mn_d s b)) 4 4 = e0 + (s.2.2 + (mn_d s b : Int))
    rw [md_44, hrow 4 (by omega), h3, List.length_take, Nat.min_eq_left (show mn_d s b ≤ _ from du_le _)]
    omega
  · show 0 ≤ s.2.2 + (mn_d s b : Int)
    omega
theorem mi_b (h : MI s 0 nb nr tm e0) : ∀ b, b ≤ nb → MI (mnb s b) b nb nr tm e0 ∧ (mnb s b).1 0 = s.1 0
  | 0, _ => ⟨h, rfl⟩
  | b + 1, hb => by
    obtain ⟨h1, h2⟩ := mi_b h b (by omega)
    obtain ⟨h3, h4, -⟩ := mi_step h1 (by omega)
    exact ⟨h3, h4.trans h2⟩
theorem bs_tick {a : Nat → Nat → Int} {TS : Nat → List Nat} (h : BS a TS nb nr tm) (ht : a 0 6 + 1 ≤ tm) : BS (ii_up a 0 6 (a 0 6 + 1)) TS nb nr tm := by
  have hrow : ∀ o, o ≠ 0 → ii_up a 0 6 (a 0 6 + 1) o = a o := fun o ho => ii_up_row _ _ ho
  obtain ⟨h4, h30, h6, h7, h8, hbu, hrq, htr, hob, ne, hjo, hsl⟩ := h
  have hv : vC (ii_up a 0 6 (a 0 6 + 1)) = vC a := vC_rows (fun o ho => hrow o (by omega))
  refine ⟨h4, h30, by rw [ii_up_s]; omega, by rw [ii_up_k _ _ (by decide)]; exact h7, by rw [ii_up_k _ _ (by decide)]; exact h8, fun c hc => ?_, fun r hr => ?_, fun c hc => ?_, fun c hc => ?_, ne, ⟨?_, fun k hk => ?_, fun r hr => ?_, fun c hc => ?_⟩, hsl⟩
  · unfold bu
    rw [hrow (200 + c) (by omega)]
    exact hbu c hc
  · obtain ⟨r0, r1, r2, r3, r4, r5, r6, r7, r8, r9, r10, r11, r12⟩ := hrq r hr
    unfold rq
    rw [hrow (300 + r) (by omega), ii_up_s]
    exact ⟨r0, r1, r2, r3, r4, r5, r6, r7, r8, r9, r10, by omega, by omega⟩
  · obtain ⟨t1, t2, t3⟩ := htr c hc
    refine ⟨t1, t2, fun q => ?_⟩
    rw [hrow (300 + q / 2) (by omega)]
    exact t3 q
  · rw [hrow (200 + c) (by omega), hob c hc]
    exact (ob_cg (fun k _ => by rw [hrow (300 + k) (by omega)]; exact ⟨Iff.rfl, rfl⟩) nr (Nat.le_refl _)).symm
  · rw [hrow 4 (by omega)]; exact hjo.1
  · rw [hrow 5 (by omega), hrow 6 (by omega)]; exact hjo.2.1 k hk
  · rw [hrow (300 + r) (by omega), hrow 6 (by omega)]; exact hjo.2.2.1 r hr
  · rw [hv, hrow (200 + c) (by omega), jd_cg (a := a) (v := vC a) ne (fun i _ => by rw [hrow 5 (by omega), hrow 6 (by omega), hrow 8 (by omega)]; exact ⟨rfl, rfl, rfl, rfl⟩)]
    exact hjo.2.2.2 c hc
theorem mi_tick {a : Nat → Nat → Int} {TS : Nat → List Nat} {t : Int} (h : BS a TS nb nr tm) (ht : a 0 6 + 1 ≤ tm) (hp : ∀ c, c < nb → pb a (TS c) c (a 0 6)) (he : a 4 4 = e0 + t) (ht0 : 0 ≤ t) : MI (tk (a, TS, t)) 0 nb nr tm e0 := by
  refine ⟨bs_tick h ht, fun c hc => ?_, ?_, ht0⟩
  · rw [if_neg (Nat.not_lt_zero _)]
    show pb (ii_up a 0 6 (a 0 6 + 1)) (TS c) c (ii_up a 0 6 (a 0 6 + 1) 0 6 - 1)
    rw [ii_up_s, show a 0 6 + 1 - 1 = a 0 6 by omega]
    exact pb_row (vC_rows (fun o ho => ii_up_row _ _ (by omega))) (ii_up_row _ _ (by omega)) (hp c hc)
  · show ii_up a 0 6 (a 0 6 + 1) 4 4 = e0 + t
    rw [ii_up_o _ _ _ (by decide)]
    exact he
theorem bs_tm {a : Nat → Nat → Int} {TS : Nat → List Nat} {tm2 : Int} (h : BS a TS nb nr tm) (ht : tm ≤ tm2) : BS a TS nb nr tm2 := ⟨h.1, h.2.1, ⟨h.2.2.1.1, Int.le_trans h.2.2.1.2 ht⟩, h.2.2.2⟩
/-- all the minutes -/
theorem mi_run {a : Nat → Nat → Int} {TS : Nat → List Nat} (h : ST a TS nb nr tm) {n : Nat} : ∀ k, k < n → MI (rn_ (a, TS, 0) nb k) 0 nb nr (a 0 6 + (n : Int)) (a 4 4) ∧ (rn_ (a, TS, 0) nb k).1 0 6 = a 0 6 + (k : Int) + 1
  | 0, hk => by
    have hB : BS a TS nb nr (a 0 6 + (n : Int)) := ⟨h.1.1, h.1.2.1, ⟨h.1.2.2.1.1, by omega⟩, h.1.2.2.2⟩
    refine ⟨mi_tick hB (by omega) h.2 (by omega) (Int.le_refl _), ?_⟩
    show ii_up a 0 6 (a 0 6 + 1) 0 6 = _
    rw [ii_up_s]
    omega
  | k + 1, hk => by
    obtain ⟨h1, h2⟩ := mi_run h (n := n) k (by omega)
    obtain ⟨⟨h3, h4, h5, h6⟩, h7⟩ := mi_b h1 nb (Nat.le_refl _)
    have e6 : (mnb (rn_ (a, TS, 0) nb k) nb).1 0 6 = a 0 6 + (k : Int) + 1 := (congrFun h7 6).trans h2
    refine ⟨mi_tick h3 (by rw [e6]; omega) (fun c hc => ?_) h5 h6, ?_⟩
    · have := h4 c hc
      rw [if_pos hc] at this
      exact this
    · show ii_up (mnb (rn_ (a, TS, 0) nb k) nb).1 0 6 ((mnb (rn_ (a, TS, 0) nb k) nb).1 0 6 + 1) 0 6 = _
      rw [ii_up_s, e6]
      omega
theorem mi_all {a : Nat → Nat → Int} {TS : Nat → List Nat} (h : ST a TS nb nr tm) {n k b : Nat} (hk : k < n) (hb : b ≤ nb) : MI (mnb (rn_ (a, TS, 0) nb k) b) b nb nr (a 0 6 + (n : Int)) (a 4 4) ∧ (mnb (rn_ (a, TS, 0) nb k) b).1 0 6 = a 0 6 + (k : Int) + 1 := by
  obtain ⟨h1, h2⟩ := mi_run h (n := n) k hk
  obtain ⟨h3, h4⟩ := mi_b h1 b hb
  exact ⟨h3, (congrFun h4 6).trans h2⟩
theorem mi_st {a : Nat → Nat → Int} {TS : Nat → List Nat} {t e0 : Int} (h : MI (a, TS, t) nb nb nr tm e0) : ST a TS nb nr tm := ⟨h.1, fun c hc => by
  have := h.2.1 c hc
  rw [if_pos hc] at this
  exact this⟩
end RUN
