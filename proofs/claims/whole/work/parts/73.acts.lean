/-! Calls that change: the states. -/
section NB
variable {f g a : Nat → Nat → Int} {TS : Nat → List Nat} {nb nr : Nat} {tm s0 c0 x y : Int}
theorem nb_row {o : Nat} (h0 : o ≠ 200 + nb) (h1 : o ≠ 210 + nb) (h2 : o ≠ 220 + nb) : nb_T f nb s0 c0 x y o = f o := by
  funext i
  unfold nb_T
  rw [if_neg h0, if_neg (by omega)]
theorem nb_at : nb_T f nb s0 c0 x y (200 + nb) = fun i => if i = 0 then (nb : Int) else if i = 1 then s0 else if i = 2 then c0 else if i = 3 then x else if i = 4 then y else if i = 6 then x else if i = 7 then y else if i = 8 then c0 else 0 := by
  funext i
  exact if_pos rfl
theorem ob_no {b : Nat} (h : ∀ r, r < nr → rq a nb r) (hb : nb ≤ b) : ∀ n, n ≤ nr → ob a b n = 0
  | 0, _ => rfl
  | n + 1, hn => by
    rw [ob, ob_no h hb n (by omega), if_neg (fun z => by
      obtain ⟨c, hc, e⟩ := (h n (by omega)).2.2.2.2.2.2.2.2.2.2.1 (by omega)
      omega)]
theorem jd_no {v : Nat → Nat → Int} {c : Int} : ∀ (k : Nat) (_ : ∀ i, i < k → a 5 i ≠ c), jd_f a v c k = (0, 0, 0)
  | 0, _ => rfl
  | k + 1, h => by rw [jd_f, if_neg (h k (by omega)), jd_no k (fun i hi => h i (by omega))]
theorem bs_add (h : BS a TS nb nr tm) (h4 : nb < 4) (hok : (1 ≤ s0 ∧ s0 ≤ 6) ∧ (20 ≤ c0 ∧ c0 ≤ 200) ∧ (0 ≤ x ∧ x ≤ 20) ∧ (0 ≤ y ∧ y ≤ 20)) : BS (nb_T a nb s0 c0 x y) (tset TS nb []) (nb + 1) nr tm := by
  have hrow : ∀ o, o ≠ 200 + nb → o ≠ 210 + nb → o ≠ 220 + nb → nb_T a nb s0 c0 x y o = a o := fun o h0 h1 h2 => nb_row h0 h1 h2
  obtain ⟨-, h30, h6, h7, h8, hbu, hrq, htr, hob, ne, hjo, hsl⟩ := h
  have e0 := hrow 0 (by omega) (by omega) (by omega)
  have er : ∀ r, nb_T a nb s0 c0 x y (300 + r) = a (300 + r) := fun r => hrow _ (by omega) (by omega) (by omega)
  have eb : ∀ c, c < nb → nb_T a nb s0 c0 x y (200 + c) = a (200 + c) := fun c hc => hrow _ (by omega) (by omega) (by omega)
  have hv : vC (nb_T a nb s0 c0 x y) = vC a := vC_rows (fun o ho => hrow o (by omega) (by omega) (by omega))
  refine ⟨by omega, h30, by rw [e0]; exact h6, by rw [e0]; exact h7, by rw [e0]; exact h8, fun c hc => ?_, fun r hr => ?_, fun c hc => ?_, fun c hc => ?_, ne, ⟨?_, fun k hk => ?_, fun r hr => ?_, fun c hc => ?_⟩, ?_⟩
  · by_cases e : c = nb
    · subst e
      unfold bu
      rw [nb_at]
      refine ⟨rfl, hok.1, hok.2.1, hok.2.2.1, hok.2.2.2, hok.2.2.1, hok.2.2.2, hok.2.1.2, ?_, Int.le_refl _⟩
      show (0 : Int) ≤ s0
      omega
    · unfold bu
      rw [eb c (by omega)]
      exact hbu c (by omega)
  · unfold rq
    rw [er, e0]
    obtain ⟨r0, r1, r2, r3, r4, r5, r6, r7, r8, r9, r10, r11, r12⟩ := hrq r hr
    refine ⟨r0, r1, r2, r3, r4, r5, r6, r7, r8, r9, fun z => ?_, r11, r12⟩
    obtain ⟨b, hb, e⟩ := r10 z
    exact ⟨b, by omega, e⟩
  · by_cases e : c = nb
    · subst e
      rw [tset_s]
      refine ⟨fun i j hi => absurd hi (Nat.not_lt_zero i), trivial, fun q => ⟨fun z => (nomatch z), fun z => ?_⟩⟩
      rw [er] at z
      obtain ⟨z1, z2, z3⟩ := z
      obtain ⟨b, hb, e⟩ := (hrq _ z1).2.2.2.2.2.2.2.2.2.2.1 (by omega)
      omega
    · rw [tset_o e]
      obtain ⟨t1, t2, t3⟩ := htr c (by omega)
      refine ⟨t1, t2, fun q => ?_⟩
      rw [er]
      exact t3 q
  · have ho : ∀ c, ob (nb_T a nb s0 c0 x y) c nr = ob a c nr := fun c => ob_cg (fun k _ => by rw [er]; exact ⟨Iff.rfl, rfl⟩) nr (Nat.le_refl _)
    rw [ho]
    by_cases e : c = nb
    · subst e
      rw [nb_at, ob_no hrq (Nat.le_refl _) nr (Nat.le_refl _)]
      rfl
    · rw [eb c (by omega)]
      exact hob c (by omega)
  · rw [hrow 4 (by omega) (by omega) (by omega)]; exact hjo.1
  · rw [hrow 5 (by omega) (by omega) (by omega), hrow 6 (by omega) (by omega) (by omega)]
    have := hjo.2.1 k hk
    omega
  · rw [er, hrow 6 (by omega) (by omega) (by omega)]; exact hjo.2.2.1 r hr
  · rw [hv, jd_cg (a := a) (v := vC a) ne (fun i _ => by rw [hrow 5 (by omega) (by omega) (by omega), hrow 6 (by omega) (by omega) (by omega), hrow 8 (by omega) (by omega) (by omega)]; exact ⟨rfl, rfl, rfl, rfl⟩)]
    by_cases e : c = nb
    · subst e
      rw [nb_at, jd_no ne (fun i hi => by have := (hjo.2.1 i hi).1; omega)]
      exact ⟨rfl, rfl⟩
    · rw [eb c (by omega)]
      exact hjo.2.2.2 c (by omega)
  · have h1 := sl_set (TS := TS) (b := nb) (S := []) nb
    rw [if_neg (Nat.lt_irrefl _), if_neg (Nat.lt_irrefl _)] at h1
    show ne + (sl (tset TS nb []) nb + (tset TS nb [] nb).length) ≤ 2 * nr
    rw [tset_s]
    have h0 : ([] : List Nat).length = 0 := rfl
    omega
theorem st_add (h : ST a TS nb nr tm) (h4 : nb < 4) (hok : (1 ≤ s0 ∧ s0 ≤ 6) ∧ (20 ≤ c0 ∧ c0 ≤ 200) ∧ (0 ≤ x ∧ x ≤ 20) ∧ (0 ≤ y ∧ y ≤ 20)) : ST (nb_T a nb s0 c0 x y) (tset TS nb []) (nb + 1) nr tm := by
  have e0 : nb_T a nb s0 c0 x y 0 = a 0 := nb_row (by omega) (by omega) (by omega)
  refine ⟨bs_add h.1 h4 hok, fun c hc => ?_⟩
  rw [e0]
  by_cases e : c = nb
  · subst e
    rw [tset_s]
    refine ⟨?_, rfl, ?_⟩
    · unfold fb
      rw [fault_nil, nb_at]
      show pd_d x y x y ≤ c0
      unfold pd_d
      omega
    · rw [nb_at]
      exact h.1.2.2.1.1
  · rw [tset_o e]
    exact pb_row (vC_rows (fun o ho => nb_row (by omega) (by omega) (by omega))) (nb_row (by omega) (by omega) (by omega)) (h.2 c (by omega))
theorem CL_add (h : CL f a TS nb nr) (h4 : nb < 4) : CL (nb_T f nb s0 c0 x y) (nb_T a nb s0 c0 x y) (tset TS nb []) (nb + 1) nr ∧ kM f (nb_T f nb s0 c0 x y) := by
  obtain ⟨h1, h2, h3⟩ := h
  refine ⟨⟨fun o ho => ?_, fun c hc => ?_, by rw [nb_row (by omega) (by omega) (by omega)]; exact h3⟩, fun o h1 h2 => nb_row (by omega) (by omega) (by omega)⟩
  · by_cases e : o = 200 + nb
    · rw [e, nb_at, nb_at]
    · rw [nb_row e (by omega) (by omega), nb_row e (by omega) (by omega)]
      exact h1 o (by omega)
  · by_cases e : c = nb
    · subst e
      rw [tset_s]
      refine ⟨?_, by simp, fun j hj => absurd hj (Nat.not_lt_zero j), fun j hj => absurd hj (Nat.not_lt_zero j)⟩
      show (if 200 + c + 10 = 200 + c then _ else if 200 + c + 10 = 210 + c ∨ 200 + c + 10 = 220 + c then (0 : Int) else f (200 + c + 10) 1) = 0
      rw [if_neg (by omega), if_pos (by omega)]
    · rw [tset_o e]
      exact ts_same (h2 c (by omega)) (nb_row (by omega) (by omega) (by omega)) (nb_row (by omega) (by omega) (by omega))
theorem ML_add (h : ML g a TS nb nr) (h4 : nb < 4) : ML (ii_up (ii_up (ii_up (ii_up (ii_up (ii_up (ii_up (ii_up (ii_up g 40 0 0) 41 nb s0) 42 nb c0) 43 nb c0) 44 nb x) 45 nb y) 46 nb x) 47 nb y) 40 29 ((nb : Int) + 1)) (nb_T a nb s0 c0 x y) (tset TS nb []) (nb + 1) nr := by
  obtain ⟨G, eG⟩ : ∃ G, G = (ii_up (ii_up (ii_up (ii_up (ii_up (ii_up (ii_up (ii_up (ii_up g 40 0 0) 41 nb s0) 42 nb c0) 43 nb c0) 44 nb x) 45 nb y) 46 nb x) 47 nb y) 40 29 ((nb : Int) + 1)) := ⟨_, rfl⟩
  rw [← eG]
  have hm : ∀ o, o ≠ 40 → (o < 41 ∨ 47 < o) → G o = g o := fun o h1 h2 => by
    rw [eG, ii_up_row _ _ h1, ii_up_row _ _ (by omega), ii_up_row _ _ (by omega), ii_up_row _ _ (by omega), ii_up_row _ _ (by omega), ii_up_row _ _ (by omega), ii_up_row _ _ (by omega), ii_up_row _ _ (by omega), ii_up_row _ _ (by omega)]
  have h40 : ∀ i, i ≠ 29 → i ≠ 0 → G 40 i = g 40 i := fun i h1 h2 => by
    rw [eG, ii_up_k _ _ h1, ii_up_o _ _ _ (by decide), ii_up_o _ _ _ (by decide), ii_up_o _ _ _ (by decide), ii_up_o _ _ _ (by decide), ii_up_o _ _ _ (by decide), ii_up_o _ _ _ (by decide), ii_up_o _ _ _ (by decide), ii_up_k _ _ h2]
  have hc : ∀ o c, 41 ≤ o → o ≤ 47 → c ≠ nb → G o c = g o c := fun o c h1 h2 h3 => by
    have hu : ∀ (q : Nat → Nat → Int) (k : Nat) (u : Int), ii_up q k nb u o c = q o c := fun q k u => by
      by_cases e : o = k
      · rw [e, ii_up_k _ _ h3]
      · rw [ii_up_o _ _ _ e]
    rw [eG, ii_up_o _ _ _ (by omega), hu, hu, hu, hu, hu, hu, hu, ii_up_o _ _ _ (by omega)]
  have hn : G 41 nb = s0 ∧ G 42 nb = c0 ∧ G 43 nb = c0 ∧ G 44 nb = x ∧ G 45 nb = y ∧ G 46 nb = x ∧ G 47 nb = y ∧ G 40 29 = (nb : Int) + 1 := by
    rw [eG]
    simp [ii_up]
  obtain ⟨hR, hT, hF⟩ := h
  obtain ⟨⟨m29, m30, m31, m32, m33, m34⟩, hbus, hfr, hreq, hfrq, h60, hent⟩ := hR
  have hrow : ∀ o, o ≠ 200 + nb → o ≠ 210 + nb → o ≠ 220 + nb → nb_T a nb s0 c0 x y o = a o := fun o h0 h1 h2 => nb_row h0 h1 h2
  have e0 := hrow 0 (by omega) (by omega) (by omega)
  have e4 := hrow 4 (by omega) (by omega) (by omega)
  refine ⟨⟨⟨?_, ?_, ?_, ?_, ?_, ?_⟩, fun c hc2 => ?_, fun c hc2 hc4 => ?_, fun r hr => ?_, fun r hr hr30 => ?_, fun r hr => ?_, fun k hk => ?_⟩, fun c hc2 => ?_, fun c hc2 hc4 => ?_⟩
  · rw [hn.2.2.2.2.2.2.2]; omega
  · rw [h40 30 (by decide) (by decide)]; exact m30
  · rw [h40 31 (by decide) (by decide), e4]; exact m31
  · rw [h40 32 (by decide) (by decide), e0]; exact m32
  · rw [h40 33 (by decide) (by decide), e0]; exact m33
  · rw [h40 34 (by decide) (by decide), e0]; exact m34
  · rw [hm 48 (by decide) (by decide), hm 49 (by decide) (by decide), hm 50 (by decide) (by decide)]
    by_cases e : c = nb
    · subst e
      obtain ⟨n1, n2, n3, n4, n5, n6, n7, -⟩ := hn
      obtain ⟨f1, f2, f3⟩ := hfr c (Nat.le_refl _) h4
      rw [n1, n2, n3, n4, n5, n6, n7, f1, f2, f3, nb_at]
      exact ⟨rfl, rfl, rfl, rfl, rfl, rfl, rfl, rfl, rfl, rfl⟩
    · rw [hc 41 c (by decide) (by decide) e, hc 42 c (by decide) (by decide) e, hc 43 c (by decide) (by decide) e, hc 44 c (by decide) (by decide) e, hc 45 c (by decide) (by decide) e, hc 46 c (by decide) (by decide) e, hc 47 c (by decide) (by decide) e, hrow (200 + c) (by omega) (by omega) (by omega)]
      exact hbus c (by omega)
  · rw [hm 48 (by decide) (by decide), hm 49 (by decide) (by decide), hm 50 (by decide) (by decide)]
    exact hfr c (by omega) hc4
  · rw [hm 53 (by decide) (by decide), hm 54 (by decide) (by decide), hm 55 (by decide) (by decide), hm 56 (by decide) (by decide), hm 57 (by decide) (by decide), hm 58 (by decide) (by decide), hm 59 (by decide) (by decide), hm 60 (by decide) (by decide), hm 61 (by decide) (by decide), hm 62 (by decide) (by decide), hm 63 (by decide) (by decide), hm 64 (by decide) (by decide), hrow (300 + r) (by omega) (by omega) (by omega)]
    exact hreq r hr
  · rw [hm 53 (by decide) (by decide), hm 54 (by decide) (by decide), hm 55 (by decide) (by decide), hm 56 (by decide) (by decide), hm 57 (by decide) (by decide), hm 58 (by decide) (by decide), hm 59 (by decide) (by decide), hm 61 (by decide) (by decide), hm 62 (by decide) (by decide)]
    exact hfrq r hr hr30
  · rw [hm 60 (by decide) (by decide)]
    exact h60 r hr
  · rw [e4] at hk
    rw [hm 65 (by decide) (by decide), hm 66 (by decide) (by decide), hm 67 (by decide) (by decide), hm 68 (by decide) (by decide), hrow 5 (by omega) (by omega) (by omega), hrow 6 (by omega) (by omega) (by omega), hrow 7 (by omega) (by omega) (by omega), hrow 8 (by omega) (by omega) (by omega)]
    exact hent k hk
  · unfold mt_I
    rw [hm 51 (by decide) (by decide), hm 52 (by decide) (by decide)]
    by_cases e : c = nb
    · subst e
      rw [tset_s]
      exact ⟨hF c (Nat.le_refl _) h4, by simp, fun j hj => absurd hj (Nat.not_lt_zero j), fun j hj => absurd hj (Nat.not_lt_zero j)⟩
    · rw [tset_o e]
      exact hT c (by omega)
  · rw [hm 51 (by decide) (by decide)]
    exact hF c (by omega) hc4
end NB
section RQ
variable {f g a a1 : Nat → Nat → Int} {TS TS1 : Nat → List Nat} {nb nr b r : Nat} {tm : Int} {S : List Nat}
/-- a request more -/
theorem bs_req (h : BS a TS nb nr tm) (hn : nr < 30) (hrow : ∀ o, o ≠ 300 + nr → a1 o = a o) (hnew : rq a1 nb nr) (h8 : a1 (300 + nr) 8 = 120 ∨ a1 (300 + nr) 8 = 119) (htr1 : ∀ b, b < nb → tr a1 (TS1 b) (nr + 1) b) (hsl1 : sl TS1 nb ≤ sl TS nb + 2) : BS a1 TS1 nb (nr + 1) tm := by
  obtain ⟨h4, h30, h6, h7, h8', hbu, hrq, htr, hob, ne, hjo, hsl⟩ := h
  have e0 := hrow 0 (by omega)
  have er : ∀ r, r < nr → a1 (300 + r) = a (300 + r) := fun r hr => hrow _ (by omega)
  refine ⟨h4, by omega, by rw [e0]; exact h6, by rw [e0]; exact h7, by rw [e0]; exact h8', fun c hc => ?_, fun r hr => ?_, htr1, fun c hc => ?_, ne, ⟨?_, fun k hk => ?_, fun r hr => ?_, fun c hc => ?_⟩, by omega⟩
  · unfold bu
    rw [hrow (200 + c) (by omega)]
    exact hbu c hc
  · by_cases e : r = nr
    · rw [e]; exact hnew
    · unfold rq
      rw [er r (by omega), e0]
      exact hrq r (by omega)
  · rw [hrow (200 + c) (by omega), ob, if_neg (by omega), ob_cg (a := a) (nr := nr) (fun k hk => by rw [er k hk]; exact ⟨Iff.rfl, rfl⟩) nr (Nat.le_refl _)]
    exact hob c hc
  · rw [hrow 4 (by omega)]; exact hjo.1
  · rw [hrow 5 (by omega), hrow 6 (by omega)]
    have := hjo.2.1 k hk
    omega
  · rw [hrow 6 (by omega)]
    by_cases e : r = nr
    · rw [e]
      exact ⟨fun _ k hk => by have := (hjo.2.1 k hk).2; omega, fun z => by omega⟩
    · rw [er r (by omega)]
      exact hjo.2.2.1 r (by omega)
  · rw [hrow (200 + c) (by omega), jd_cg (a := a) (v := vC a) ne (fun i hi => by
      have := (hjo.2.1 i hi).2
      rw [hrow 5 (by omega), hrow 6 (by omega), hrow 8 (by omega)]
      exact ⟨rfl, rfl, rfl, congrFun (er _ (by omega)) 4⟩)]
    exact hjo.2.2.2 c hc
/-- other buses do not mind -/
theorem pb_cg {t : Int} (h : ∀ q, q ∈ S → q / 2 < nr) (hv : cg (vC a) (vC a1) (fun r => r < nr)) (hr : a1 (200 + b) = a (200 + b)) (hp : pb a S b t) : pb a1 S b t := by
  obtain ⟨h1, h2, h3⟩ := hp
  unfold pb fb nu
  rw [hr, cg_fault hv h, cg_du hv _ _ h]
  exact ⟨h1, h2, h3⟩
/-- the order of a tour changes -/
theorem bs_order (h : BS a TS nb nr tm) (hb : b < nb) (hp : pm_L (TS b) S) (hpk : pk S) : BS a (tset TS b S) nb nr tm := by
  obtain ⟨h4, h30, h6, h7, h8, hbu, hrq, htr, hob, ne, hjo, hsl⟩ := h
  refine ⟨h4, h30, h6, h7, h8, hbu, hrq, fun c hc => ?_, hob, ne, hjo, ?_⟩
  · by_cases e : c = b
    · subst e
      rw [tset_s]
      obtain ⟨t1, t2, t3⟩ := htr c hc
      exact ⟨hp.2.1, hpk, fun q => (hp.2.2 q).trans (t3 q)⟩
    · rw [tset_o e]
      exact htr c hc
  · have h1 := sl_set (TS := TS) (b := b) (S := S) nb
    rw [if_pos hb, if_pos hb, hp.1] at h1
    omega
theorem vC_8 {u : Int} : vC (ii_up a (300 + r) 8 u) = vC a := by
  have hu : ∀ o i, i ≠ 8 → ii_up a (300 + r) 8 u o i = a o i := fun o i hi => by
    by_cases e : o = 300 + r
    · rw [e, ii_up_k _ _ hi]
    · rw [ii_up_o _ _ _ e]
  funext c i
  unfold vC pd_x pd_y
  rw [hu _ 0 (by decide), hu _ 1 (by decide), hu _ 2 (by decide), hu _ 3 (by decide), hu _ 4 (by decide), hu _ 6 (by decide), hu _ 7 (by decide), hu _ 11 (by decide)]
/-- a request is taken back -/
theorem bs_cancel (h : BS a TS nb nr tm) (hb : b < nb) (hr : r < nr) (hst : a (300 + r) 8 = 119) (hrb : a (300 + r) 10 = (b : Int)) : BS (ii_up a (300 + r) 8 99) (tset TS b (wo r (TS b))) nb nr tm := by
  have hrow : ∀ o, o ≠ 300 + r → ii_up a (300 + r) 8 99 o = a o := fun o ho => ii_up_row _ _ ho
  have er : ∀ q i, i ≠ 8 → ii_up a (300 + r) 8 99 (300 + q) i = a (300 + q) i := fun q i hi => by
    by_cases e : q = r
    · rw [e, ii_up_k _ _ hi]
    · rw [ii_up_o _ _ _ (by omega)]
  have er8 : ∀ q, ii_up a (300 + r) 8 99 (300 + q) 8 = if q = r then 99 else a (300 + q) 8 := fun q => by
    by_cases e : q = r
    · rw [e, ii_up_s, if_pos rfl]
    · rw [ii_up_o _ _ _ (by omega), if_neg e]
  obtain ⟨h4, h30, h6, h7, h8, hbu, hrq, htr, hob, ne, hjo, hsl⟩ := h
  have e0 := hrow 0 (by omega)
  refine ⟨h4, h30, by rw [e0]; exact h6, by rw [e0]; exact h7, by rw [e0]; exact h8, fun c hc => ?_, fun q hq => ?_, fun c hc => ?_, fun c hc => ?_, ne, ⟨?_, fun k hk => ?_, fun q hq => ?_, fun c hc => ?_⟩, ?_⟩
  · unfold bu
    rw [hrow (200 + c) (by omega)]
    exact hbu c hc
  · obtain ⟨r0, r1, r2, r3, r4, r5, r6, r7, r8, r9, r10, r11, r12⟩ := hrq q hq
    unfold rq
    rw [er8, er q 0 (by decide), er q 1 (by decide), er q 2 (by decide), er q 3 (by decide), er q 4 (by decide), er q 5 (by decide), er q 6 (by decide), er q 7 (by decide), er q 9 (by decide), er q 10 (by decide), er q 11 (by decide), er q 12 (by decide), e0]
    by_cases e : q = r
    · rw [if_pos e]
      exact ⟨Or.inr (Or.inr (Or.inr (Or.inl rfl))), r1, r2, r3, r4, r5, r6, r7, r8, fun z => by omega, fun _ => r10 (by rw [e]; omega), r11, r12⟩
    · rw [if_neg e]
      exact ⟨r0, r1, r2, r3, r4, r5, r6, r7, r8, r9, r10, r11, r12⟩
  · by_cases e : c = b
    · subst e
      rw [tset_s]
      obtain ⟨t1, t2, t3⟩ := htr c hc
      refine ⟨wo_nd t1, wo_pk t2, fun q => ?_⟩
      rw [wo_mem, t3, er _ 10 (by decide), er8]
      by_cases e2 : q / 2 = r
      · rw [if_pos e2]
        exact ⟨fun z => absurd e2 z.2, fun z => by omega⟩
      · rw [if_neg e2]
        exact ⟨fun z => z.1, fun z => ⟨z, e2⟩⟩
    · rw [tset_o e]
      obtain ⟨t1, t2, t3⟩ := htr c hc
      refine ⟨t1, t2, fun q => ?_⟩
      rw [t3, er _ 10 (by decide), er8]
      by_cases e2 : q / 2 = r
      · rw [if_pos e2, e2, hrb]
        exact ⟨fun z => by omega, fun z => by omega⟩
      · rw [if_neg e2]
  · rw [hrow (200 + c) (by omega), hob c hc]
    refine (ob_cg (fun k _ => ?_) nr (Nat.le_refl _)).symm
    rw [er8, er _ 10 (by decide), er _ 4 (by decide)]
    by_cases e : k = r
    · rw [if_pos e, e, hst]
      exact ⟨⟨fun z => by omega, fun z => by omega⟩, rfl⟩
    · rw [if_neg e]
      exact ⟨Iff.rfl, rfl⟩
  · rw [hrow 4 (by omega)]; exact hjo.1
  · rw [hrow 5 (by omega), hrow 6 (by omega)]; exact hjo.2.1 k hk
  · rw [hrow 6 (by omega), er8]
    by_cases e : q = r
    · rw [if_pos e]
      exact ⟨fun z => by omega, fun z => by omega⟩
    · rw [if_neg e]
      exact hjo.2.2.1 q hq
  · rw [hrow (200 + c) (by omega), vC_8, jd_cg (a := a) (v := vC a) ne (fun i _ => by rw [hrow 5 (by omega), hrow 6 (by omega), hrow 8 (by omega)]; exact ⟨rfl, rfl, rfl, rfl⟩)]
    exact hjo.2.2.2 c hc
  · have h1 := sl_set (TS := TS) (b := b) (S := wo r (TS b)) nb
    rw [if_pos hb, if_pos hb] at h1
    have := wo_le (r := r) (TS b)
    omega
/-- what the model makes of a cancel -/
theorem mr_cancel (h : MR g a nb nr) (hr : r < nr) (h30 : nr ≤ 30) (h4 : nb ≤ 4) (hst : a (300 + r) 8 = 119) : MR (ii_up g 63 r 99) (ii_up a (300 + r) 8 99) nb nr := by
  have hm : ∀ o, o ≠ 63 → ii_up g 63 r 99 o = g o := fun o ho => ii_up_row _ _ ho
  have hrow : ∀ o, o ≠ 300 + r → ii_up a (300 + r) 8 99 o = a o := fun o ho => ii_up_row _ _ ho
  obtain ⟨hsc, hbus, hfr, hreq, hfrq, h60, hent⟩ := h
  refine ⟨?_, fun c hc => ?_, fun c hc hc4 => ?_, fun q hq => ?_, fun q hq hq30 => ?_, fun q hq => ?_, fun k hk => ?_⟩
  · rw [hm 40 (by decide), hrow 4 (by omega), hrow 0 (by omega)]
    exact hsc
  · rw [hm 41 (by decide), hm 42 (by decide), hm 43 (by decide), hm 44 (by decide), hm 45 (by decide), hm 46 (by decide), hm 47 (by decide), hm 48 (by decide), hm 49 (by decide), hm 50 (by decide), hrow (200 + c) (by omega)]
    exact hbus c hc
  · rw [hm 48 (by decide), hm 49 (by decide), hm 50 (by decide)]
    exact hfr c hc hc4
  · rw [hm 53 (by decide), hm 54 (by decide), hm 55 (by decide), hm 56 (by decide), hm 57 (by decide), hm 58 (by decide), hm 59 (by decide), hm 60 (by decide), hm 61 (by decide), hm 62 (by decide), hm 64 (by decide)]
    by_cases e : q = r
    · subst e
      obtain ⟨p1, ⟨p8, p11, p12⟩, p10, p9⟩ := hreq q hq
      rw [ii_up_s, ii_up_s, ii_up_k _ _ (show 0 ≠ 8 by decide), ii_up_k _ _ (show 1 ≠ 8 by decide), ii_up_k _ _ (show 2 ≠ 8 by decide), ii_up_k _ _ (show 3 ≠ 8 by decide), ii_up_k _ _ (show 4 ≠ 8 by decide), ii_up_k _ _ (show 6 ≠ 8 by decide), ii_up_k _ _ (show 7 ≠ 8 by decide), ii_up_k _ _ (show 9 ≠ 8 by decide), ii_up_k _ _ (show 10 ≠ 8 by decide), ii_up_k _ _ (show 11 ≠ 8 by decide), ii_up_k _ _ (show 12 ≠ 8 by decide)]
      exact ⟨p1, ⟨rfl, p11, p12⟩, fun _ => p10 (by omega), fun z => by omega⟩
    · rw [ii_up_k _ _ e, hrow (300 + q) (by omega)]
      exact hreq q hq
  · rw [hm 53 (by decide), hm 54 (by decide), hm 55 (by decide), hm 56 (by decide), hm 57 (by decide), hm 58 (by decide), hm 59 (by decide), hm 61 (by decide), hm 62 (by decide)]
    exact hfrq q hq hq30
  · rw [hm 60 (by decide)]
    exact h60 q hq
  · rw [hrow 4 (by omega)] at hk
    rw [hm 65 (by decide), hm 66 (by decide), hm 67 (by decide), hm 68 (by decide), hrow 5 (by omega), hrow 6 (by omega), hrow 7 (by omega), hrow 8 (by omega)]
    exact hent k hk
/-- a request more, in the model -/
theorem mr_req {M : Nat → Nat → Int} (h : MR g a nb nr) (hn : nr < 30) (h4 : nb ≤ 4) (hrow : ∀ o, o ≠ 300 + nr → a1 o = a o) (hM1 : ∀ o, o ≠ 40 → (o < 53 ∨ 60 < o) → o ≠ 63 → o ≠ 64 → M o = g o) (hM2 : ∀ o q, o ≠ 40 → q ≠ nr → M o q = g o q) (h40 : ∀ i, i ≠ 30 → M 40 i = g 40 i) (hM30 : M 40 30 = (nr : Int) + 1)
    (hnew : (M 53 nr = a1 (300 + nr) 0 ∧ M 54 nr = a1 (300 + nr) 1 ∧ M 55 nr = a1 (300 + nr) 2 ∧ M 56 nr = a1 (300 + nr) 3 ∧ M 57 nr = a1 (300 + nr) 4 ∧ M 58 nr = a1 (300 + nr) 6 ∧ M 59 nr = a1 (300 + nr) 7) ∧ (M 63 nr = a1 (300 + nr) 8 ∧ M 61 nr = a1 (300 + nr) 11 ∧ M 62 nr = a1 (300 + nr) 12) ∧ (a1 (300 + nr) 8 ≠ 120 → M 60 nr = a1 (300 + nr) 10) ∧ (a1 (300 + nr) 8 = 120 → M 64 nr = sg_f (a1 (300 + nr) 9)))
    (h60' : -1 ≤ M 60 nr ∧ M 60 nr ≤ 10) : MR M a1 nb (nr + 1) := by
  obtain ⟨⟨m29, m30, m31, m32, m33, m34⟩, hbus, hfr, hreq, hfrq, h60, hent⟩ := h
  have e0 := hrow 0 (by omega)
  have e4 := hrow 4 (by omega)
  have hm : ∀ o, o ≠ 40 → (o < 53 ∨ 60 < o) → o ≠ 63 → o ≠ 64 → M o = g o := hM1
  refine ⟨⟨?_, ?_, ?_, ?_, ?_, ?_⟩, fun c hc => ?_, fun c hc hc4 => ?_, fun q hq => ?_, fun q hq hq30 => ?_, fun q hq => ?_, fun k hk => ?_⟩
  · rw [h40 29 (by decide)]; exact m29
  · rw [hM30]; omega
  · rw [h40 31 (by decide), e4]; exact m31
  · rw [h40 32 (by decide), e0]; exact m32
  · rw [h40 33 (by decide), e0]; exact m33
  · rw [h40 34 (by decide), e0]; exact m34
  · rw [hm 41 (by decide) (by decide) (by decide) (by decide), hm 42 (by decide) (by decide) (by decide) (by decide), hm 43 (by decide) (by decide) (by decide) (by decide), hm 44 (by decide) (by decide) (by decide) (by decide), hm 45 (by decide) (by decide) (by decide) (by decide), hm 46 (by decide) (by decide) (by decide) (by decide), hm 47 (by decide) (by decide) (by decide) (by decide), hm 48 (by decide) (by decide) (by decide) (by decide), hm 49 (by decide) (by decide) (by decide) (by decide), hm 50 (by decide) (by decide) (by decide) (by decide), hrow (200 + c) (by omega)]
    exact hbus c hc
  · rw [hm 48 (by decide) (by decide) (by decide) (by decide), hm 49 (by decide) (by decide) (by decide) (by decide), hm 50 (by decide) (by decide) (by decide) (by decide)]
    exact hfr c hc hc4
  · by_cases e : q = nr
    · rw [e]; exact hnew
    · rw [hM2 53 q (by decide) e, hM2 54 q (by decide) e, hM2 55 q (by decide) e, hM2 56 q (by decide) e, hM2 57 q (by decide) e, hM2 58 q (by decide) e, hM2 59 q (by decide) e, hM2 60 q (by decide) e, hM2 61 q (by decide) e, hM2 62 q (by decide) e, hM2 63 q (by decide) e, hM2 64 q (by decide) e, hrow (300 + q) (by omega)]
      exact hreq q (by omega)
  · have e : q ≠ nr := by omega
    rw [hM2 53 q (by decide) e, hM2 54 q (by decide) e, hM2 55 q (by decide) e, hM2 56 q (by decide) e, hM2 57 q (by decide) e, hM2 58 q (by decide) e, hM2 59 q (by decide) e, hM2 61 q (by decide) e, hM2 62 q (by decide) e]
    exact hfrq q (by omega) hq30
  · by_cases e : q = nr
    · rw [e]; exact h60'
    · rw [hM2 60 q (by decide) e]
      exact h60 q hq
  · rw [e4] at hk
    rw [hm 65 (by decide) (by decide) (by decide) (by decide), hm 66 (by decide) (by decide) (by decide) (by decide), hm 67 (by decide) (by decide) (by decide) (by decide), hm 68 (by decide) (by decide) (by decide) (by decide), hrow 5 (by omega), hrow 6 (by omega), hrow 7 (by omega), hrow 8 (by omega)]
    exact hent k hk
end RQ
