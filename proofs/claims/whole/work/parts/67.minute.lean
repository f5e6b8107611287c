/-! Stops that are due; a minute. -/
theorem du_01 {v v2 : Nat → Nat → Int} {x y : Int} : ∀ {S : List Nat} (_ : ∀ q, q ∈ S → v2 0 q = v 0 q ∧ v2 1 q = v 1 q), du_n v2 x y S = du_n v x y S
  | [], _ => rfl
  | q :: S, h => by
    obtain ⟨e0, e1⟩ := h q List.mem_cons_self
    rw [du_n, du_n, e0, e1, du_01 (fun q2 h2 => h q2 (List.mem_cons_of_mem _ h2))]
theorem tset_tset {TS : Nat → List Nat} {b : Nat} {S S2 : List Nat} : tset (tset TS b S) b S2 = tset TS b S2 := by
  funext c
  unfold tset
  split <;> rfl
theorem tset_self {TS : Nat → List Nat} {b : Nat} {S : List Nat} (h : TS b = S) : tset TS b S = TS := by
  funext c
  unfold tset
  split
  · rename_i e; rw [e, h]
  · rfl
section DUE
variable {nb nr b : Nat} {tm : Int}
/-- all the stops that are due are made -/
theorem bs_due (hb : b < nb) : ∀ (S : List Nat) (a : Nat → Nat → Int) (TS : Nat → List Nat) (_ : BS a TS nb nr tm) (_ : TS b = S) (_ : fb a S b (a 0 6)) (k : Nat) (_ : k = du_n (vC a) (a (200 + b) 6) (a (200 + b) 7) S),
    BS (md_T a b (S.take k)) (tset TS b (S.drop k)) nb nr tm ∧ fb (md_T a b (S.take k)) (S.drop k) b (a 0 6) ∧ nu (md_T a b (S.take k)) (S.drop k) b ∧ (∀ c, c < nb → c ≠ b → ∀ t, pb a (TS c) c t → pb (md_T a b (S.take k)) (TS c) c t) ∧ md_T a b (S.take k) 0 = a 0 ∧ (∀ i, i ≠ 9 → md_T a b (S.take k) (200 + b) i = a (200 + b) i) ∧ (∀ r, r < nr → ∀ i, i < 8 → md_T a b (S.take k) (300 + r) i = a (300 + r) i)
  | [], a, TS, h, hT, hf, k, hk => by
    have e : k = 0 := hk
    subst e
    refine ⟨?_, hf, rfl, fun c _ _ t hz => hz, rfl, fun _ _ => rfl, fun _ _ _ _ => rfl⟩
    show BS a (tset TS b []) nb nr tm
    rw [tset_self hT]
    exact h
  | q :: S, a, TS, h, hT, hf, k, hk => by
    rw [du_n] at hk
    by_cases hd : pd_d (a (200 + b) 6) (a (200 + b) 7) (vC a 0 q) (vC a 1 q) ≤ 0
    · rw [if_pos hd] at hk
      obtain ⟨h1, h2, h3, h4, h5, h6⟩ := bs_stop h hb hT hf hd
      have hTS := (h.2.2.2.2.2.2.2.1 b hb)
      rw [hT] at hTS
      have hdu : du_n (vC (mk_T a b q)) (mk_T a b q (200 + b) 6) (mk_T a b q (200 + b) 7) S = du_n (vC a) (a (200 + b) 6) (a (200 + b) 7) S := by
        rw [h5 6 (by decide), h5 7 (by decide)]
        refine du_01 (fun p hp => ?_)
        have hpn : p / 2 < nr := tr_R hTS p (List.mem_cons_of_mem _ hp)
        show pd_x (mk_T a b q) p = pd_x a p ∧ pd_y (mk_T a b q) p = pd_y a p
        unfold pd_x pd_y
        rw [h6 _ hpn 0 (by decide), h6 _ hpn 1 (by decide), h6 _ hpn 2 (by decide), h6 _ hpn 3 (by decide)]
        exact ⟨rfl, rfl⟩
      obtain ⟨k2, ek⟩ : ∃ k2, k2 = du_n (vC a) (a (200 + b) 6) (a (200 + b) 7) S := ⟨_, rfl⟩
      rw [← ek] at hk hdu
      subst hk
      obtain ⟨g1, g2, g3, g4, g5, g6, g7⟩ := bs_due hb S (mk_T a b q) (tset TS b S) h1 tset_s (by rw [h4]; exact h2) k2 hdu.symm
      rw [h4] at g2 g5
      rw [tset_tset] at g1
      refine ⟨g1, g2, g3, fun c hc hcb t hz => ?_, g5, fun i hi => (g6 i hi).trans (h5 i hi), fun r hr i hi => (g7 r hr i hi).trans (h6 r hr i hi)⟩
      have := g4 c hc hcb t
      rw [tset_o hcb] at this
      exact this (h3 c hc hcb t hz)
    · rw [if_neg hd] at hk
      subst hk
      refine ⟨?_, hf, ?_, fun c _ _ t hz => hz, rfl, fun _ _ => rfl, fun _ _ _ _ => rfl⟩
      · show BS a (tset TS b (q :: S)) nb nr tm
        rw [tset_self hT]
        exact h
      · show du_n _ _ _ (q :: S) = 0
        rw [du_n]
        exact if_neg hd
end DUE
section DR
variable {a v : Nat → Nat → Int} {o : Nat} {x y : Int}
theorem dr_9 : dr_T a o x y o 9 = a o 9 := by
  have h1 : dr_1 a o x y o 9 = a o 9 := by
    unfold dr_1
    split <;> exact ii_up_k _ _ (by decide)
  unfold dr_T
  split
  · rw [ii_up_k _ _ (by decide), ii_up_k _ _ (by decide), ii_up_k _ _ (by decide), ii_up_k _ _ (by decide), h1]
  · rw [ii_up_k _ _ (by decide), ii_up_k _ _ (by decide), ii_up_k _ _ (by decide), h1]
theorem dr_lo {i : Nat} (h : i < 6) : dr_T a o x y o i = a o i := by
  have h1 : dr_1 a o x y o i = a o i := by
    unfold dr_1
    split <;> exact ii_up_k _ _ (by omega)
  unfold dr_T
  split
  · rw [ii_up_k _ _ (by omega), ii_up_k _ _ (by omega), ii_up_k _ _ (by omega), ii_up_k _ _ (by omega), h1]
  · rw [ii_up_k _ _ (by omega), ii_up_k _ _ (by omega), ii_up_k _ _ (by omega), h1]
theorem dr_67 {i : Nat} (h : i = 6 ∨ i = 7) : dr_T a o x y o i = dr_1 a o x y o i := by
  unfold dr_T
  split
  · rw [ii_up_k _ _ (by omega), ii_up_k _ _ (by omega), ii_up_k _ _ (by omega), ii_up_k _ _ (by omega)]
  · rw [ii_up_k _ _ (by omega), ii_up_k _ _ (by omega), ii_up_k _ _ (by omega)]
theorem dr_8 : dr_T a o x y o 8 = a o 8 - 1 := by
  unfold dr_T
  split
  · rw [ii_up_k _ _ (by decide), ii_up_k _ _ (by decide), ii_up_k _ _ (by decide), ii_up_s]
  · rw [ii_up_k _ _ (by decide), ii_up_k _ _ (by decide), ii_up_s]
theorem dr_10 : dr_T a o x y o 10 = a o 10 + 1 := by
  unfold dr_T
  split
  · rw [ii_up_k _ _ (by decide), ii_up_k _ _ (by decide), ii_up_s]
  · rw [ii_up_k _ _ (by decide), ii_up_s]
theorem dr_12 : dr_T a o x y o 12 = a o 12 + a o 9 := by
  unfold dr_T
  split
  · rw [ii_up_k _ _ (by decide), ii_up_s]
  · rw [ii_up_s]
theorem dr_11 : dr_T a o x y o 11 = if a o 9 = 0 then a o 11 + 1 else a o 11 := by
  have h1 : dr_1 a o x y o 11 = a o 11 := by
    unfold dr_1
    split <;> exact ii_up_k _ _ (by decide)
  unfold dr_T
  split
  · rw [ii_up_s]
  · rw [ii_up_k _ _ (by decide), ii_up_k _ _ (by decide), ii_up_k _ _ (by decide), h1]
theorem dr1_6 : dr_1 a o x y o 6 = if a o 6 = x then a o 6 else a o 6 + (if a o 6 < x then 1 else -1) := by
  unfold dr_1
  split
  · rw [ii_up_k _ _ (by decide)]
  · rw [ii_up_s]
theorem dr1_7 : dr_1 a o x y o 7 = if a o 6 = x then a o 7 + (if a o 7 < y then 1 else -1) else a o 7 := by
  unfold dr_1
  split
  · rw [ii_up_s]
  · rw [ii_up_k _ _ (by decide)]
/-- one step nearer -/
theorem dr_near (hne : ¬ (a o 6 = x ∧ a o 7 = y)) : pd_d (dr_T a o x y o 6) (dr_T a o x y o 7) x y = pd_d (a o 6) (a o 7) x y - 1 := by
  rw [dr_67 (Or.inl rfl), dr_67 (Or.inr rfl), dr1_6, dr1_7]
  unfold pd_d
  by_cases h1 : a o 6 = x
  · rw [if_pos h1, if_pos h1]
    split <;> omega
  · rw [if_neg h1, if_neg h1]
    split <;> omega
theorem dr_town (hne : ¬ (a o 6 = x ∧ a o 7 = y)) (h6 : 0 ≤ a o 6 ∧ a o 6 ≤ 20) (h7 : 0 ≤ a o 7 ∧ a o 7 ≤ 20) (hx : 0 ≤ x ∧ x ≤ 20) (hy : 0 ≤ y ∧ y ≤ 20) : (0 ≤ dr_T a o x y o 6 ∧ dr_T a o x y o 6 ≤ 20) ∧ 0 ≤ dr_T a o x y o 7 ∧ dr_T a o x y o 7 ≤ 20 := by
  rw [dr_67 (Or.inl rfl), dr_67 (Or.inr rfl), dr1_6, dr1_7]
  by_cases h1 : a o 6 = x
  · rw [if_pos h1, if_pos h1]
    split <;> omega
  · rw [if_neg h1, if_neg h1]
    split <;> omega
end DR
section SPM
variable {a : Nat → Nat → Int} {TS : Nat → List Nat} {nb nr b : Nat} {tm : Int}
theorem vC_rows {a2 : Nat → Nat → Int} (h : ∀ o, 300 ≤ o → a2 o = a o) : vC a2 = vC a := by
  funext c i
  unfold vC pd_x pd_y
  rw [h (300 + i) (by omega), h (300 + i / 2) (by omega)]
/-- a bus row changes, the rest does not: what is kept -/
theorem bs_bus {a2 : Nat → Nat → Int} (h : BS a TS nb nr tm) (hb : b < nb) (hrow : ∀ o, o ≠ 200 + b → a2 o = a o) (hbu : bu a2 b) (h9 : a2 (200 + b) 9 = a (200 + b) 9) (h11 : a2 (200 + b) 11 - a (200 + b) 11 = if a (200 + b) 9 = 0 then a2 (200 + b) 10 - a (200 + b) 10 else 0) : BS a2 TS nb nr tm := by
  obtain ⟨h4, h30, h6, h7, h8, hbus, hrq, htr, hob, ne, hjo, hsl⟩ := h
  have e0 : a2 0 = a 0 := hrow _ (by omega)
  have er : ∀ r, a2 (300 + r) = a (300 + r) := fun r => hrow _ (by omega)
  refine ⟨h4, h30, by rw [e0]; exact h6, by rw [e0]; exact h7, by rw [e0]; exact h8, fun c hc => ?_, fun r hr => ?_, fun c hc => ?_, fun c hc => ?_, ne, ⟨?_, fun k hk => ?_, fun r hr => ?_, fun c hc => ?_⟩, hsl⟩
  · by_cases e : c = b
    · rw [e]; exact hbu
    · unfold bu
      rw [hrow (200 + c) (by omega)]
      exact hbus c hc
  · unfold rq
    rw [er, e0]
    exact hrq r hr
  · obtain ⟨t1, t2, t3⟩ := htr c hc
    refine ⟨t1, t2, fun q => ?_⟩
    rw [er]
    exact t3 q
  · have : ob a2 c nr = ob a c nr := ob_cg (fun k _ => by rw [er]; exact ⟨Iff.rfl, rfl⟩) nr (Nat.le_refl _)
    rw [this]
    by_cases e : c = b
    · rw [e, h9, ← e]; exact hob c hc
    · rw [hrow (200 + c) (by omega)]; exact hob c hc
  · rw [hrow 4 (by omega)]; exact hjo.1
  · rw [hrow 5 (by omega), hrow 6 (by omega)]; exact hjo.2.1 k hk
  · rw [er, hrow 6 (by omega)]; exact hjo.2.2.1 r hr
  · have hjd : jd_f a2 (vC a2) (c : Int) ne = jd_f a (vC a) (c : Int) ne := jd_cg ne (fun i _ => by
      rw [hrow 5 (by omega), hrow 6 (by omega), hrow 8 (by omega), vC_rows (fun o ho => hrow o (by omega))]
      exact ⟨rfl, rfl, rfl, rfl⟩)
    obtain ⟨j1, j2⟩ := hjo.2.2.2 c hc
    rw [hjd]
    by_cases e : c = b
    · subst e
      rw [h9]
      refine ⟨j1, ?_⟩
      rw [j1] at j2 ⊢
      split at h11
      · rename_i hz
        rw [if_pos hz] at j2 ⊢
        omega
      · rename_i hz
        rw [if_neg hz] at j2 ⊢
        omega
    · rw [hrow (200 + c) (by omega)]
      exact ⟨j1, j2⟩
theorem pb_row {a2 : Nat → Nat → Int} {S : List Nat} {c : Nat} {t : Int} (hv : vC a2 = vC a) (hr : a2 (200 + c) = a (200 + c)) (h : pb a S c t) : pb a2 S c t := by
  unfold pb fb nu at h ⊢
  rw [hv, hr]
  exact h
/-- the bus b drives or charges -/
theorem bs_spend (h : BS a TS nb nr tm) (hb : b < nb) (hp : pb a (TS b) b (a 0 6 - 1)) : BS (sp_T a (vC a) b (TS b)) TS nb nr tm ∧ fb (sp_T a (vC a) b (TS b)) (TS b) b (a 0 6) ∧ sp_T a (vC a) b (TS b) (200 + b) 10 ≤ a 0 6 := by
  obtain ⟨hf, hn, hd⟩ := hp
  have hrow : ∀ o, o ≠ 200 + b → sp_T a (vC a) b (TS b) o = a o := fun o ho => sp_row ho
  have hv : vC (sp_T a (vC a) b (TS b)) = vC a := vC_rows (fun o ho => hrow o (by have := h.1; omega))
  obtain ⟨u0, u1, u2, u3, u4, u6, u7, u8, u9, u10⟩ := h.2.2.2.2.2.1 b hb
  have drive : ∀ (x y : Int) (_ : ¬ (a (200 + b) 6 = x ∧ a (200 + b) 7 = y)) (_ : 0 ≤ x ∧ x ≤ 20) (_ : 0 ≤ y ∧ y ≤ 20), bu (dr_T a (200 + b) x y) b ∧ dr_T a (200 + b) x y (200 + b) 9 = a (200 + b) 9 ∧ (dr_T a (200 + b) x y (200 + b) 11 - a (200 + b) 11 = if a (200 + b) 9 = 0 then dr_T a (200 + b) x y (200 + b) 10 - a (200 + b) 10 else 0) := fun x y hne hx hy => by
    obtain ⟨t1, t2⟩ := dr_town hne u6 u7 hx hy
    refine ⟨?_, dr_9, ?_⟩
    · unfold bu
      rw [dr_lo (by decide), dr_lo (by decide), dr_lo (by decide), dr_lo (by decide), dr_lo (by decide), dr_8, dr_9, dr_10]
      omega
    · rw [dr_11, dr_10]
      split <;> omega
  unfold fb at hf ⊢
  rw [hv]
  cases hS : TS b with
  | nil =>
    rw [hS] at hf hrow hv
    rw [fault_nil] at hf
    by_cases hz : a (200 + b) 6 ≠ a (200 + b) 3 ∨ a (200 + b) 7 ≠ a (200 + b) 4
    · have e : sp_T a (vC a) b [] = dr_T a (200 + b) (a (200 + b) 3) (a (200 + b) 4) := by
        unfold sp_T
        rw [if_pos rfl, if_pos hz]
      have hne : ¬ (a (200 + b) 6 = a (200 + b) 3 ∧ a (200 + b) 7 = a (200 + b) 4) := by omega
      obtain ⟨d1, d2, d3⟩ := drive _ _ hne u3 u4
      rw [e] at hrow ⊢
      refine ⟨bs_bus h hb hrow d1 d2 d3, ?_, ?_⟩
      · rw [fault_nil, dr_lo (show 3 < 6 by decide), dr_lo (show 4 < 6 by decide), dr_near hne, dr_8]
        omega
      · rw [dr_10]; omega
    · have e : sp_T a (vC a) b [] = ii_up a (200 + b) 8 (min (a (200 + b) 2) (a (200 + b) 8 + 5)) := by
        unfold sp_T
        rw [if_pos rfl, if_neg hz]
      have hp0 := pd_0 (a (200 + b) 6) (a (200 + b) 7) (a (200 + b) 3) (a (200 + b) 4)
      rw [e] at hrow ⊢
      refine ⟨bs_bus h hb hrow ?_ (ii_up_k _ _ (by decide)) ?_, ?_, ?_⟩
      · unfold bu
        rw [ii_up_k _ _ (show 0 ≠ 8 by decide), ii_up_k _ _ (show 1 ≠ 8 by decide), ii_up_k _ _ (show 2 ≠ 8 by decide), ii_up_k _ _ (show 3 ≠ 8 by decide), ii_up_k _ _ (show 4 ≠ 8 by decide), ii_up_k _ _ (show 6 ≠ 8 by decide), ii_up_k _ _ (show 7 ≠ 8 by decide), ii_up_s, ii_up_k _ _ (show 9 ≠ 8 by decide), ii_up_k _ _ (show 10 ≠ 8 by decide)]
        omega
      · rw [ii_up_k _ _ (show 11 ≠ 8 by decide), ii_up_k _ _ (show 10 ≠ 8 by decide)]
        split <;> omega
      · rw [fault_nil, ii_up_k _ _ (show 6 ≠ 8 by decide), ii_up_k _ _ (show 7 ≠ 8 by decide), ii_up_k _ _ (show 3 ≠ 8 by decide), ii_up_k _ _ (show 4 ≠ 8 by decide), ii_up_s]
        unfold pd_d at hf hp0 ⊢
        omega
      · rw [ii_up_k _ _ (show 10 ≠ 8 by decide)]; omega
  | cons q S =>
    rw [hS] at hf hrow hv hn
    have e : sp_T a (vC a) b (q :: S) = dr_T a (200 + b) (vC a 0 q) (vC a 1 q) := by
      unfold sp_T
      rw [if_neg (by simp)]
      rfl
    have hnd : ¬ pd_d (a (200 + b) 6) (a (200 + b) 7) (vC a 0 q) (vC a 1 q) ≤ 0 := fun z => by
      unfold nu at hn
      rw [du_n, if_pos z] at hn
      omega
    have hne : ¬ (a (200 + b) 6 = vC a 0 q ∧ a (200 + b) 7 = vC a 1 q) := fun z => by
      apply hnd
      unfold pd_d
      omega
    have hqn : q / 2 < nr := tr_R (h.2.2.2.2.2.2.2.1 b hb) q (by rw [hS]; exact List.mem_cons_self)
    obtain ⟨-, r0, r1, r2, r3, -⟩ := h.2.2.2.2.2.2.1 _ hqn
    have hx : (0 ≤ vC a 0 q ∧ vC a 0 q ≤ 20) ∧ 0 ≤ vC a 1 q ∧ vC a 1 q ≤ 20 := by
      show (0 ≤ pd_x a q ∧ pd_x a q ≤ 20) ∧ 0 ≤ pd_y a q ∧ pd_y a q ≤ 20
      unfold pd_x pd_y
      split
      · exact ⟨r0, r1⟩
      · exact ⟨r2, r3⟩
    obtain ⟨d1, d2, d3⟩ := drive _ _ hne hx.1 hx.2
    rw [e] at hrow ⊢
    refine ⟨bs_bus h hb hrow d1 d2 d3, ?_, ?_⟩
    · have := fault_drive (v := vC a) (q := q) (S := S) (x := a (200 + b) 6) (y := a (200 + b) 7) (now := a 0 6 - 1) (onb := a (200 + b) 9) (cap := a (200 + b) 1) (dx := a (200 + b) 3) (dy := a (200 + b) 4) (chg := a (200 + b) 8) (dr_near hne)
      rw [show a 0 6 - 1 + 1 = a 0 6 by omega] at this
      rw [dr_9, dr_lo (show 1 < 6 by decide), dr_lo (show 3 < 6 by decide), dr_lo (show 4 < 6 by decide), dr_8, this]
      exact hf
    · rw [dr_10]; omega
end SPM
