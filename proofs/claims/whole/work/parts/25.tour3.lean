/-! Tours: sort, the next order. -/
/-- the stops are apart -/
def nd_L (S : List Nat) : Prop := ∀ i j, i < S.length → j < S.length → S.getD i 0 = S.getD j 0 → i = j
/-- the same stops in another order -/
def pm_L (S S2 : List Nat) : Prop := S2.length = S.length ∧ nd_L S2 ∧ ∀ x, x ∈ S2 ↔ x ∈ S
theorem pm_refl {S : List Nat} (h : nd_L S) : pm_L S S := ⟨rfl, h, fun _ => Iff.rfl⟩
theorem pm_trans {S S2 S3 : List Nat} (h : pm_L S S2) (h2 : pm_L S2 S3) : pm_L S S3 := ⟨h2.1.trans h.1, h2.2.1, fun x => (h2.2.2 x).trans (h.2.2 x)⟩
theorem sw_gd2 {S : List Nat} {a b : Nat} (ha : a < S.length) (hb : b < S.length) (j : Nat) : (sw_L S a b).getD j 0 = S.getD (if j = b then a else if j = a then b else j) 0 := by
  rw [sw_gd ha hb]
  split
  · rfl
  · split
    · rfl
    · rfl
theorem pm_swap {S : List Nat} {a b : Nat} (h : nd_L S) (ha : a < S.length) (hb : b < S.length) : pm_L S (sw_L S a b) := by
  refine ⟨sw_len S a b, fun i j hi hj he => ?_, fun x => ⟨fun hx => ?_, fun hx => ?_⟩⟩
  · rw [sw_len] at hi hj
    rw [sw_gd2 ha hb, sw_gd2 ha hb] at he
    have h1 := h _ _ (by split <;> (try split) <;> omega) (by split <;> (try split) <;> omega) he
    split at h1 <;> split at h1 <;> (try split at h1) <;> (try split at h1) <;> omega
  · obtain ⟨k, hk, rfl⟩ := gd_of_mem (d := 0) hx
    rw [sw_len] at hk
    rw [sw_gd2 ha hb]
    exact gd_mem (by split <;> (try split) <;> omega)
  · obtain ⟨k, hk, rfl⟩ := gd_of_mem (d := 0) hx
    have h2 : S.getD k 0 = (sw_L S a b).getD (if k = b then a else if k = a then b else k) 0 := by
      rw [sw_gd2 ha hb]
      congr 1
      by_cases q1 : k = b <;> by_cases q2 : k = a <;> by_cases q3 : a = b <;> simp_all
    rw [h2]
    exact gd_mem (by rw [sw_len]; split <;> (try split) <;> omega)
/-- before, upwards or downwards -/
def so_lt (up : Bool) (x y : Nat) : Prop := if up = true then x < y else y < x
theorem so_tr {up : Bool} {x y z : Nat} (h : so_lt up x y) (h2 : so_lt up y z) : so_lt up x z := by
  cases up <;> simp [so_lt] at h h2 ⊢ <;> omega
theorem so_brk1 {up : Bool} {x y : Nat} (h : ¬ (y : Int) ≤ x) (h2 : (1 : Int) = if up = true then 1 else 0) : so_lt up x y := by
  cases up
  · simp at h2
  · show x < y
    omega
theorem so_brk0 {up : Bool} {x y : Nat} (h : (y : Int) ≤ x) (hne : x ≠ y) (h2 : (0 : Int) = if up = true then 1 else 0) : so_lt up x y := by
  cases up
  · show y < x
    omega
  · simp at h2
theorem so_sw1 {up : Bool} {x y : Nat} (h : ¬ (y : Int) ≤ x) (h2 : ¬ (1 : Int) = if up = true then 1 else 0) : so_lt up y x := by
  cases up
  · show x < y
    omega
  · simp at h2
theorem so_sw0 {up : Bool} {x y : Nat} (h : (y : Int) ≤ x) (hne : x ≠ y) (h2 : ¬ (0 : Int) = if up = true then 1 else 0) : so_lt up y x := by
  cases up
  · simp at h2
  · show y < x
    omega
/-- sorted from a on -/
def so_P (up : Bool) (a : Nat) (S S2 : List Nat) : Prop := pm_L S S2 ∧ (∀ j, j < a → S2.getD j 0 = S.getD j 0) ∧ ∀ i j, a ≤ i → i < j → j < S.length → so_lt up (S2.getD i 0) (S2.getD j 0)
/-- from a to k sorted but for the one at b, which lies ahead of those behind it -/
def so_I (up : Bool) (a k b : Nat) (S : List Nat) : Prop := (∀ i j, a ≤ i → i < j → j ≤ k → i ≠ b → j ≠ b → so_lt up (S.getD i 0) (S.getD j 0)) ∧ ∀ j, b < j → j ≤ k → so_lt up (S.getD b 0) (S.getD j 0)
theorem so_0 {up : Bool} {a k : Nat} {S : List Nat} (h : ∀ i j, a ≤ i → i < j → j < k → so_lt up (S.getD i 0) (S.getD j 0)) : so_I up a k k S := ⟨fun i j h1 h2 h3 _ h5 => h i j h1 h2 (by omega), fun j h1 h2 => by omega⟩
theorem so_done {up : Bool} {a k b : Nat} {S : List Nat} (h : so_I up a k b S) (hb : b = a ∨ so_lt up (S.getD (b - 1) 0) (S.getD b 0)) : ∀ i j, a ≤ i → i < j → j ≤ k → so_lt up (S.getD i 0) (S.getD j 0) := by
  intro i j h1 h2 h3
  by_cases hi : i = b
  · subst hi
    exact h.2 j h2 h3
  · by_cases hj : j = b
    · subst hj
      rcases hb with rfl | hb
      · omega
      · by_cases q : i = j - 1
        · subst q; exact hb
        · exact so_tr (h.1 i (j - 1) h1 (by omega) (by omega) hi (by omega)) hb
    · exact h.1 i j h1 h2 h3 hi hj
theorem so_step {up : Bool} {a k b : Nat} {S : List Nat} (hba : a < b) (hbk : b ≤ k) (hk : k < S.length) (h : so_I up a k b S) (hs : so_lt up (S.getD b 0) (S.getD (b - 1) 0)) : so_I up a k (b - 1) (sw_L S (b - 1) b) := by
  refine ⟨fun i j h1 h2 h3 h4 h5 => ?_, fun j h1 h2 => ?_⟩
  · rw [sw_gd (by omega) (by omega), sw_gd (by omega) (by omega), if_neg h4, if_neg h5]
    by_cases hi : i = b
    · rw [if_pos hi, if_neg (by omega)]
      exact h.1 (b - 1) j (by omega) (by omega) h3 (by omega) (by omega)
    · rw [if_neg hi]
      by_cases hj : j = b
      · rw [if_pos hj]
        exact h.1 i (b - 1) h1 (by omega) (by omega) hi (by omega)
      · rw [if_neg hj]
        exact h.1 i j h1 h2 h3 hi hj
  · rw [sw_gd (by omega) (by omega), sw_gd (by omega) (by omega), if_neg (by omega), if_pos rfl]
    by_cases hj : j = b
    · rw [if_pos hj]; exact hs
    · rw [if_neg hj, if_neg (by omega)]
      exact h.2 j (by omega) h2
/-- no order comes behind: the stops fall -/
def nx_last (S : List Nat) : Prop := ∀ i j, i < j → j < S.length → S.getD j 0 < S.getD i 0
theorem nx_fall {S : List Nat} {a : Nat} (h : ∀ j, a ≤ j → j + 1 < S.length → S.getD (j + 1) 0 < S.getD j 0) : ∀ d i, a ≤ i → i + d + 1 < S.length → S.getD (i + d + 1) 0 < S.getD i 0
  | 0, i, h1, h2 => h i h1 h2
  | d + 1, i, h1, h2 => Nat.lt_trans (h (i + d + 1) (by omega) (by omega)) (nx_fall h d i h1 (by omega))
theorem nx_last_of {S : List Nat} (h : ∀ j, j + 1 < S.length → S.getD (j + 1) 0 < S.getD j 0) : nx_last S := by
  intro i j h1 h2
  have := nx_fall (a := 0) (fun j _ h2 => h j h2) (j - i - 1) i (by omega) (by omega)
  rw [show i + (j - i - 1) + 1 = j by omega] at this
  exact this
/-- S2 is the next order of S: they are alike ahead of i; there S2 has the least of the later stops that is greater; behind, S falls and S2 rises -/
def nx_R (S S2 : List Nat) : Prop := pm_L S S2 ∧ ∃ i, i + 1 < S.length ∧ (∀ j, j < i → S2.getD j 0 = S.getD j 0) ∧ S.getD i 0 < S2.getD i 0 ∧ (∀ j, i < j → j < S.length → S.getD i 0 < S.getD j 0 → S2.getD i 0 ≤ S.getD j 0) ∧ (∀ j k, i < j → j < k → k < S.length → S.getD k 0 < S.getD j 0) ∧ ∀ j k, i < j → j < k → k < S.length → S2.getD j 0 < S2.getD k 0
theorem nx_of {S S3 : List Nat} {a b : Nat} (hnd : nd_L S) (hab : a < b) (hb : b < S.length) (hgt : S.getD a 0 < S.getD b 0) (hb3 : ∀ j, b < j → j < S.length → S.getD j 0 < S.getD a 0) (hd : ∀ j, a < j → j + 1 < S.length → S.getD (j + 1) 0 < S.getD j 0) (h : so_P true (a + 1) (sw_L S a b) S3) : nx_R S S3 := by
  obtain ⟨hp, hpre, hso⟩ := h
  have hfall : ∀ j k, a < j → j < k → k < S.length → S.getD k 0 < S.getD j 0 := by
    intro j k h1 h2 h3
    have := nx_fall (a := a + 1) (fun j h2 h3 => hd j (by omega) h3) (k - j - 1) j (by omega) (by omega)
    rw [show j + (k - j - 1) + 1 = k by omega] at this
    exact this
  have ha3 : S3.getD a 0 = S.getD b 0 := by rw [hpre a (by omega), sw_gd (by omega) hb, if_neg (by omega), if_pos rfl]
  refine ⟨pm_trans (pm_swap hnd (by omega) hb) hp, a, by omega, fun j h1 => ?_, by rw [ha3]; exact hgt, fun j h1 h2 h3 => ?_, hfall, fun j k h1 h2 h3 => ?_⟩
  · rw [hpre j (by omega), sw_gd (by omega) hb, if_neg (by omega), if_neg (by omega)]
  · rw [ha3]
    rcases Nat.lt_or_ge b j with q | q
    · have := hb3 j q h2
      omega
    · rcases Nat.lt_or_eq_of_le q with q | q
      · exact Nat.le_of_lt (hfall j b h1 q hb)
      · subst q; exact Nat.le_refl _
  · have := hso j k (by omega) h2 (by rw [sw_len]; exact h3)
    simpa [so_lt] using this
set_option maxRecDepth 20000 in
set_option maxHeartbeats 2000000 in
theorem c_sortFrom {l : Launch} {E : ab_E} {base : Nat} (hl : l.stackTraces = false) {ad : Nat → Nat} (f : Nat → Nat → Int) (w : Nat × Nat × Int64 × UInt64) {t : Nat} (ht : ab_ob 4 w.1 w.2.1 t = some (8, [some (t + 10), none])) (hta : ab_ar 4 w.1 (t + 10) = some (0, 8)) {S : List Nat} (hS : ts_I f t S) (hnd : nd_L S) (a : Nat) (ha : a ≤ 20) (up : Bool) : ab_M l E base yX7_sortFrom cX7_sortFrom 5 none 3 0 0 [.ref (ad t), ii_v ((a : Nat) : Int), ii_v (if up = true then 1 else 0)] ab_x4 ad (f, w) (ab_F ad w (fun r g => r = none ∧ ∃ S2, ts_I g t S2 ∧ so_P up a S S2 ∧ ∀ o, o ≠ t + 10 → g o = f o)) := by
  obtain ⟨Post, hPost⟩ : ∃ P : ab_P, P = (ab_F ad w (fun r g => r = none ∧ ∃ S2, ts_I g t S2 ∧ so_P up a S S2 ∧ ∀ o, o ≠ t + 10 → g o = f o)) := ⟨_, rfl⟩
  rw [← hPost]
  refine ab_of RX7 [(0, .ref (ad t)), (1, ii_v ((a : Nat) : Int)), (2, ii_v (if up = true then 1 else 0))] hl (by decide) rfl (Nat.le_of_ble_eq_true rfl) rfl ?_
  intro p e s m args below meth c C T0 hnm
  obtain ⟨hc, h8, -, -⟩ := id hS
  refine a_iload_n C dX7_sortFrom_0 rfl ?_
  refine a_iconst C dX7_sortFrom_1 ?_
  refine a_iadd C dX7_sortFrom_2 ?_
  refine a_istore_n (L' := [(0, .ref (ad t)), (1, ii_v ((a : Nat) : Int)), (2, ii_v (if up = true then 1 else 0)), (3, ii_v (((a : Nat) : Int) + 1))]) C dX7_sortFrom_3 (by decide) rfl ?_
  have loop4 : ∀ (NN4 : Nat) (k : Nat) (S1 : List Nat) (g1 : Nat → Nat → Int), S.length - k < NN4 → (a + 1 ≤ k) → (k ≤ S.length ∨ k = a + 1) → (ts_I g1 t S1) → (pm_L S S1) → (∀ j, j < a → S1.getD j 0 = S.getD j 0) → (∀ i j, a ≤ i → i < j → j < k → j < S.length → so_lt up (S1.getD i 0) (S1.getD j 0)) → (∀ o, o ≠ t + 10 → g1 o = f o) → ab_W p l e (ab_rm 3 0 0) s m args below meth c E base 5 (ab_Q below E base Post args s 0 0) ab_x4 ad (g1, w) 0 0 4 [(0, .ref (ad t)), (1, ii_v ((a : Nat) : Int)), (2, ii_v (if up = true then 1 else 0)), (3, ii_v ((k : Nat) : Int))] [] := by
    intro NN4
    induction NN4 with
    | zero => intro k S1 g1 hNN; exact absurd hNN (Nat.not_lt_zero _)
    | succ NN4 ih4 =>
      intro k S1 g1 hNN hk hkb hs1 hp1 hs1p hs1s hfr
      refine a_iload_n C dX7_sortFrom_4 rfl ?_
      refine a_aload_n C dX7_sortFrom_5 rfl ?_
      refine a_get (ci := 8) (i := 1) (v := ii_v (g1 t 1)) C iw_X7 rfl (by decide) rfl fl_X7_15 ht rfl dX7_sortFrom_6 ?_
      have hc1 : g1 t 1 = S.length := by rw [hs1.1, hp1.1]
      refine a_icmp_ge (tgt := 72) C dX7_sortFrom_9 rfl (by unfold ii_B; omega) (by unfold ii_B; omega) (fun h9 => ?_) (fun h9 => ?_)
      · skip
        refine a_vret C ?_ (by decide) (by decide) dX7_sortFrom_72
        rw [hPost]
        exact ab_F_of ⟨rfl, S1, hs1, ⟨hp1, hs1p, fun i j h1 h2 h3 => hs1s i j h1 h2 (by omega) h3⟩, hfr⟩
      · skip
        refine a_iload_n C dX7_sortFrom_12 rfl ?_
        refine a_istore (L' := [(0, .ref (ad t)), (1, ii_v ((a : Nat) : Int)), (2, ii_v (if up = true then 1 else 0)), (3, ii_v ((k : Nat) : Int)), (4, ii_v ((k : Nat) : Int))]) C dX7_sortFrom_13 (by decide) rfl ?_
        have loop15 : ∀ (NN15 : Nat) (b : Nat) (S2 : List Nat) (g2 : Nat → Nat → Int), b < NN15 → (a ≤ b) → (b ≤ k) → (ts_I g2 t S2) → (pm_L S S2) → (∀ j, j < a → S2.getD j 0 = S.getD j 0) → (so_I up a k b S2) → (∀ o, o ≠ t + 10 → g2 o = f o) → ab_W p l e (ab_rm 3 0 0) s m args below meth c E base 5 (ab_Q below E base Post args s 0 0) ab_x4 ad (g2, w) 0 0 15 [(0, .ref (ad t)), (1, ii_v ((a : Nat) : Int)), (2, ii_v (if up = true then 1 else 0)), (3, ii_v ((k : Nat) : Int)), (4, ii_v ((b : Nat) : Int))] [] := by
          intro NN15
          induction NN15 with
          | zero => intro b S2 g2 hNN; exact absurd hNN (Nat.not_lt_zero _)
          | succ NN15 ih15 =>
            intro b S2 g2 hNN hba hbk hs2 hp2 hs2p hs2i hfr2
            refine a_iload C dX7_sortFrom_15 rfl ?_
            refine a_iload_n C dX7_sortFrom_17 rfl ?_
            refine a_icmp_le (tgt := 66) C dX7_sortFrom_18 rfl (by unfold ii_B; omega) (by unfold ii_B; omega) (fun h18 => ?_) (fun h18 => ?_)
            · skip
              have hfin : b = a ∨ so_lt up (S2.getD (b - 1) 0) (S2.getD b 0) := Or.inl (by omega)
              have hl2 := so_done hs2i hfin
              refine a_iinc (L' := [(0, .ref (ad t)), (1, ii_v ((a : Nat) : Int)), (2, ii_v (if up = true then 1 else 0)), (3, ii_v (((k : Nat) : Int) + 1)), (4, ii_v ((b : Nat) : Int))]) C dX7_sortFrom_66 rfl (by decide) rfl ?_
              refine a_goto (tgt := 4) C dX7_sortFrom_69 rfl ?_
              refine a_pick [0, 1, 2, 3] (L2 := [(0, .ref (ad t)), (1, ii_v ((a : Nat) : Int)), (2, ii_v (if up = true then 1 else 0)), (3, ii_v (((k : Nat) : Int) + 1))]) rfl ?_
              exact ih4 (k + 1) S2 g2 (by omega) (by omega) (Or.inl (by omega)) hs2 hp2 hs2p (fun i j h1 h2 h3 _ => hl2 i j h1 h2 (by omega)) hfr2
            · skip
              have hlen2 := hp2.1
              have q1 := hs2.2.2.2 (b - 1) (by omega)
              have q2 := hs2.2.2.2 b (by omega)
              have hne : S2.getD (b - 1) 0 ≠ S2.getD b 0 := fun q => absurd (hp2.2.1 (b - 1) b (by omega) (by omega) q) (by omega)
              refine a_aload_n C dX7_sortFrom_21 rfl ?_
              refine a_iload C dX7_sortFrom_22 rfl ?_
              refine a_iconst C dX7_sortFrom_24 ?_
              refine a_isub C dX7_sortFrom_25 ?_
              refine a_callV (o := t) (As := [ii_v (((b : Nat) : Int) - 1)]) C (c_stopAtS hl g2 w ht hta hs2 (((b : Nat) : Int) - 1) (b - 1) (by omega) (by omega)) co_X7_stopAt in_X7 ml_X7_19 im_X7_stopAt se_X7_stopAt rfl ht ar_X7_stopAt ⟨by decide, by decide, by decide, by decide⟩ rfl (Nat.le_of_ble_eq_true rfl) dX7_sortFrom_26 (a_dR ?_) a_nR
              refine a_aload_n C dX7_sortFrom_29 rfl ?_
              refine a_iload C dX7_sortFrom_30 rfl ?_
              refine a_callV (o := t) (As := [ii_v ((b : Nat) : Int)]) C (c_stopAtS hl g2 w ht hta hs2 ((b : Nat) : Int) b (by omega) (by omega)) co_X7_stopAt in_X7 ml_X7_19 im_X7_stopAt se_X7_stopAt rfl ht ar_X7_stopAt ⟨by decide, by decide, by decide, by decide⟩ rfl (Nat.le_of_ble_eq_true rfl) dX7_sortFrom_32 (a_dR ?_) a_nR
              refine a_icmp_ge (tgt := 42) C dX7_sortFrom_35 rfl (by unfold ii_B; omega) (by unfold ii_B; omega) (fun h35 => ?_) (fun h35 => ?_)
              · skip
                refine a_iconst C dX7_sortFrom_42 ?_
                refine a_iload_n C dX7_sortFrom_43 rfl ?_
                refine a_icmp_ne (tgt := 50) C dX7_sortFrom_44 rfl (by unfold ii_B; omega) ii_Bb (fun h44 => ?_) (fun h44 => ?_)
                · skip
                  have hsw : so_lt up (S2.getD b 0) (S2.getD (b - 1) 0) := by first | exact so_sw1 h35 h44 | exact so_sw0 h35 hne h44
                  refine a_aload_n C dX7_sortFrom_50 rfl ?_
                  refine a_iload C dX7_sortFrom_51 rfl ?_
                  refine a_iconst C dX7_sortFrom_53 ?_
                  refine a_isub C dX7_sortFrom_54 ?_
                  refine a_iload C dX7_sortFrom_55 rfl ?_
                  refine a_callV (o := t) (As := [ii_v (((b : Nat) : Int) - 1), ii_v ((b : Nat) : Int)]) C (c_swap hl g2 w ht hta hs2 (((b : Nat) : Int) - 1) ((b : Nat) : Int) (b - 1) b (by omega) (by omega) (by omega) (by omega)) co_X7_swap in_X7 ml_X7_34 im_X7_swap se_X7_swap rfl ht ar_X7_swap ⟨by decide, by decide, by decide, by decide⟩ rfl (Nat.le_of_ble_eq_true rfl) dX7_sortFrom_57 (a_dF ?_) a_nF
                  intro vg1 g1 hvg1
                  obtain ⟨rfl, hsg1, hfg1⟩ := hvg1
                  refine a_iinc (L' := [(0, .ref (ad t)), (1, ii_v ((a : Nat) : Int)), (2, ii_v (if up = true then 1 else 0)), (3, ii_v ((k : Nat) : Int)), (4, ii_v (((b : Nat) : Int) + (-1)))]) C dX7_sortFrom_60 rfl (by decide) rfl ?_
                  rw [show ((b : Nat) : Int) + (-1) = ((b - 1 : Nat) : Int) by omega]
                  refine a_goto (tgt := 15) C dX7_sortFrom_63 rfl ?_
                  exact ih15 (b - 1) (sw_L S2 (b - 1) b) g1 (by omega) (by omega) (by omega) hsg1 (pm_trans hp2 (pm_swap hp2.2.1 (by omega) (by omega))) (fun j h => by rw [sw_gd (by omega) (by omega), if_neg (by omega), if_neg (by omega)]; exact hs2p j h) (so_step (by omega) (by omega) (by omega) hs2i hsw) (fun o h => (hfg1 o h).trans (hfr2 o h))
                · skip
                  have hfin : b = a ∨ so_lt up (S2.getD (b - 1) 0) (S2.getD b 0) := Or.inr (by first | exact so_brk1 h35 h44 | exact so_brk0 h35 hne h44)
                  refine a_goto (tgt := 66) C dX7_sortFrom_47 rfl ?_
                  have hl2 := so_done hs2i hfin
                  refine a_iinc (L' := [(0, .ref (ad t)), (1, ii_v ((a : Nat) : Int)), (2, ii_v (if up = true then 1 else 0)), (3, ii_v (((k : Nat) : Int) + 1)), (4, ii_v ((b : Nat) : Int))]) C dX7_sortFrom_66 rfl (by decide) rfl ?_
                  refine a_goto (tgt := 4) C dX7_sortFrom_69 rfl ?_
                  refine a_pick [0, 1, 2, 3] (L2 := [(0, .ref (ad t)), (1, ii_v ((a : Nat) : Int)), (2, ii_v (if up = true then 1 else 0)), (3, ii_v (((k : Nat) : Int) + 1))]) rfl ?_
                  exact ih4 (k + 1) S2 g2 (by omega) (by omega) (Or.inl (by omega)) hs2 hp2 hs2p (fun i j h1 h2 h3 _ => hl2 i j h1 h2 (by omega)) hfr2
              · skip
                refine a_iconst C dX7_sortFrom_38 ?_
                refine a_goto (tgt := 43) C dX7_sortFrom_39 rfl ?_
                refine a_iload_n C dX7_sortFrom_43 rfl ?_
                refine a_icmp_ne (tgt := 50) C dX7_sortFrom_44 rfl (by unfold ii_B; omega) ii_Bb (fun h44 => ?_) (fun h44 => ?_)
                · skip
                  have hsw : so_lt up (S2.getD b 0) (S2.getD (b - 1) 0) := by first | exact so_sw1 h35 h44 | exact so_sw0 h35 hne h44
                  refine a_aload_n C dX7_sortFrom_50 rfl ?_
                  refine a_iload C dX7_sortFrom_51 rfl ?_
                  refine a_iconst C dX7_sortFrom_53 ?_
                  refine a_isub C dX7_sortFrom_54 ?_
                  refine a_iload C dX7_sortFrom_55 rfl ?_
                  refine a_callV (o := t) (As := [ii_v (((b : Nat) : Int) - 1), ii_v ((b : Nat) : Int)]) C (c_swap hl g2 w ht hta hs2 (((b : Nat) : Int) - 1) ((b : Nat) : Int) (b - 1) b (by omega) (by omega) (by omega) (by omega)) co_X7_swap in_X7 ml_X7_34 im_X7_swap se_X7_swap rfl ht ar_X7_swap ⟨by decide, by decide, by decide, by decide⟩ rfl (Nat.le_of_ble_eq_true rfl) dX7_sortFrom_57 (a_dF ?_) a_nF
                  intro vg2 g2 hvg2
                  obtain ⟨rfl, hsg2, hfg2⟩ := hvg2
                  refine a_iinc (L' := [(0, .ref (ad t)), (1, ii_v ((a : Nat) : Int)), (2, ii_v (if up = true then 1 else 0)), (3, ii_v ((k : Nat) : Int)), (4, ii_v (((b : Nat) : Int) + (-1)))]) C dX7_sortFrom_60 rfl (by decide) rfl ?_
                  rw [show ((b : Nat) : Int) + (-1) = ((b - 1 : Nat) : Int) by omega]
                  refine a_goto (tgt := 15) C dX7_sortFrom_63 rfl ?_
                  exact ih15 (b - 1) (sw_L S2 (b - 1) b) g2 (by omega) (by omega) (by omega) hsg2 (pm_trans hp2 (pm_swap hp2.2.1 (by omega) (by omega))) (fun j h => by rw [sw_gd (by omega) (by omega), if_neg (by omega), if_neg (by omega)]; exact hs2p j h) (so_step (by omega) (by omega) (by omega) hs2i hsw) (fun o h => (hfg2 o h).trans (hfr2 o h))
                · skip
                  have hfin : b = a ∨ so_lt up (S2.getD (b - 1) 0) (S2.getD b 0) := Or.inr (by first | exact so_brk1 h35 h44 | exact so_brk0 h35 hne h44)
                  refine a_goto (tgt := 66) C dX7_sortFrom_47 rfl ?_
                  have hl2 := so_done hs2i hfin
                  refine a_iinc (L' := [(0, .ref (ad t)), (1, ii_v ((a : Nat) : Int)), (2, ii_v (if up = true then 1 else 0)), (3, ii_v (((k : Nat) : Int) + 1)), (4, ii_v ((b : Nat) : Int))]) C dX7_sortFrom_66 rfl (by decide) rfl ?_
                  refine a_goto (tgt := 4) C dX7_sortFrom_69 rfl ?_
                  refine a_pick [0, 1, 2, 3] (L2 := [(0, .ref (ad t)), (1, ii_v ((a : Nat) : Int)), (2, ii_v (if up = true then 1 else 0)), (3, ii_v (((k : Nat) : Int) + 1))]) rfl ?_
                  exact ih4 (k + 1) S2 g2 (by omega) (by omega) (Or.inl (by omega)) hs2 hp2 hs2p (fun i j h1 h2 h3 _ => hl2 i j h1 h2 (by omega)) hfr2
        exact loop15 (_ + 1) k S1 g1 (Nat.lt_succ_self _) (by omega) (Nat.le_refl _) hs1 hp1 hs1p (so_0 (fun i j h1 h2 h3 => hs1s i j h1 h2 h3 (by omega))) hfr
  exact loop4 (_ + 1) (a + 1) S f (Nat.lt_succ_self _) (Nat.le_refl _) (Or.inr rfl) hS (pm_refl hnd) (fun _ _ => rfl) (fun i j h1 h2 h3 _ => by omega) (fun _ _ => rfl)
set_option maxRecDepth 20000 in
set_option maxHeartbeats 2000000 in
theorem c_turnToNext {l : Launch} {E : ab_E} {base : Nat} (hl : l.stackTraces = false) {ad : Nat → Nat} (f : Nat → Nat → Int) (w : Nat × Nat × Int64 × UInt64) {t : Nat} (ht : ab_ob 4 w.1 w.2.1 t = some (8, [some (t + 10), none])) (hta : ab_ar 4 w.1 (t + 10) = some (0, 8)) {S : List Nat} (hS : ts_I f t S) (hnd : nd_L S) : ab_M l E base yX7_turnToNext cX7_turnToNext 3 (some .boolean) 4 0 0 [.ref (ad t)] ab_x4 ad (f, w) (ab_F ad w (fun r g => (r = some (ii_v 0) ∧ g = f ∧ nx_last S) ∨ (r = some (ii_v 1) ∧ ∃ S2, ts_I g t S2 ∧ nx_R S S2 ∧ ∀ o, o ≠ t + 10 → g o = f o))) := by
  obtain ⟨Post, hPost⟩ : ∃ P : ab_P, P = (ab_F ad w (fun r g => (r = some (ii_v 0) ∧ g = f ∧ nx_last S) ∨ (r = some (ii_v 1) ∧ ∃ S2, ts_I g t S2 ∧ nx_R S S2 ∧ ∀ o, o ≠ t + 10 → g o = f o))) := ⟨_, rfl⟩
  rw [← hPost]
  refine ab_of RX7 [(0, .ref (ad t))] hl (by decide) rfl (Nat.le_of_ble_eq_true rfl) rfl ?_
  intro p e s m args below meth c C T0 hnm
  obtain ⟨hc, h8, hj, hb⟩ := id hS
  refine a_aload_n C dX7_turnToNext_0 rfl ?_
  refine a_get (ci := 8) (i := 1) (v := ii_v (f t 1)) C iw_X7 rfl (by decide) rfl fl_X7_15 ht rfl dX7_turnToNext_1 ?_
  refine a_iconst C dX7_turnToNext_4 ?_
  refine a_isub C dX7_turnToNext_5 ?_
  refine a_istore_n (L' := [(0, .ref (ad t)), (1, ii_v ((f t 1) - 2))]) C dX7_turnToNext_6 (by decide) rfl ?_
  have loop7 : ∀ (NN7 : Nat) (u : Int), (u + 2).toNat < NN7 → (-2 ≤ u ∧ u + 1 < (S.length : Int)) → (∀ j : Nat, u < (j : Int) → j + 1 < S.length → S.getD (j + 1) 0 < S.getD j 0) → ab_W p l e (ab_rm 4 0 0) s m args below meth c E base 3 (ab_Q below E base Post args s 0 0) ab_x4 ad (f, w) 0 0 7 [(0, .ref (ad t)), (1, ii_v u)] [] := by
    intro NN7
    induction NN7 with
    | zero => intro u hNN; exact absurd hNN (Nat.not_lt_zero _)
    | succ NN7 ih7 =>
      intro u hNN hu1 hud
      refine a_iload_n C dX7_turnToNext_7 rfl ?_
      refine a_if_lt (tgt := 32) C dX7_turnToNext_8 rfl (by unfold ii_B; omega) (fun h8 => ?_) (fun h8 => ?_)
      · skip
        refine a_iload_n C dX7_turnToNext_32 rfl ?_
        have hu2 : u < 0 ∨ (u.toNat + 1 < S.length ∧ S.getD u.toNat 0 < S.getD (u.toNat + 1) 0) := by first | exact Or.inl (by assumption) | exact Or.inr ⟨by omega, by have q3 : S.getD u.toNat 0 ≠ S.getD (u.toNat + 1) 0 := fun q => absurd (hnd u.toNat (u.toNat + 1) (by omega) (by omega) q) (by omega); omega⟩
        refine a_if_ge (tgt := 38) C dX7_turnToNext_33 rfl (by unfold ii_B; omega) (fun h33 => ?_) (fun h33 => ?_)
        · skip
          obtain ⟨a, rfl⟩ := Int.eq_ofNat_of_zero_le (show 0 ≤ u by omega)
          rw [Int.toNat_natCast] at hu2
          have hla := hu2.resolve_left (by omega)
          refine a_aload_n C dX7_turnToNext_38 rfl ?_
          refine a_get (ci := 8) (i := 1) (v := ii_v (f t 1)) C iw_X7 rfl (by decide) rfl fl_X7_15 ht rfl dX7_turnToNext_39 ?_
          refine a_iconst C dX7_turnToNext_42 ?_
          refine a_isub C dX7_turnToNext_43 ?_
          rw [hc, show ((S.length : Nat) : Int) - 1 = ((S.length - 1 : Nat) : Int) by omega]
          refine a_istore_n (L' := [(0, .ref (ad t)), (1, ii_v ((a : Nat) : Int)), (2, ii_v (((S.length - 1) : Nat) : Int))]) C dX7_turnToNext_44 (by decide) rfl ?_
          have loop45 : ∀ (NN45 : Nat) (b : Nat), b < NN45 → (a < b) → (b < S.length) → (∀ j, b < j → j < S.length → S.getD j 0 < S.getD a 0) → ab_W p l e (ab_rm 4 0 0) s m args below meth c E base 3 (ab_Q below E base Post args s 0 0) ab_x4 ad (f, w) 0 0 45 [(0, .ref (ad t)), (1, ii_v ((a : Nat) : Int)), (2, ii_v ((b : Nat) : Int))] [] := by
            intro NN45
            induction NN45 with
            | zero => intro b hNN; exact absurd hNN (Nat.not_lt_zero _)
            | succ NN45 ih45 =>
              intro b hNN hb1 hb2 hb3
              refine a_iload_n C dX7_turnToNext_45 rfl ?_
              refine a_iload_n C dX7_turnToNext_46 rfl ?_
              refine a_icmp_le (tgt := 69) C dX7_turnToNext_47 rfl (by unfold ii_B; omega) (by unfold ii_B; omega) (fun h47 => ?_) (fun h47 => ?_)
              · skip
                omega
              · skip
                refine a_aload_n C dX7_turnToNext_50 rfl ?_
                refine a_iload_n C dX7_turnToNext_51 rfl ?_
                refine a_callV (o := t) (As := [ii_v ((b : Nat) : Int)]) C (c_stopAtS hl f w ht hta hS ((b : Nat) : Int) b (by omega) (by omega)) co_X7_stopAt in_X7 ml_X7_19 im_X7_stopAt se_X7_stopAt rfl ht ar_X7_stopAt ⟨by decide, by decide, by decide, by decide⟩ rfl (Nat.le_of_ble_eq_true rfl) dX7_turnToNext_52 (a_dR ?_) a_nR
                refine a_aload_n C dX7_turnToNext_55 rfl ?_
                refine a_iload_n C dX7_turnToNext_56 rfl ?_
                refine a_callV (o := t) (As := [ii_v ((a : Nat) : Int)]) C (c_stopAtS hl f w ht hta hS ((a : Nat) : Int) a (by omega) (by omega)) co_X7_stopAt in_X7 ml_X7_19 im_X7_stopAt se_X7_stopAt rfl ht ar_X7_stopAt ⟨by decide, by decide, by decide, by decide⟩ rfl (Nat.le_of_ble_eq_true rfl) dX7_turnToNext_57 (a_dR ?_) a_nR
                have q1 := hb a (by omega)
                have q2 := hb b (by omega)
                refine a_icmp_ge (tgt := 69) C dX7_turnToNext_60 rfl (by unfold ii_B; omega) (by unfold ii_B; omega) (fun h60 => ?_) (fun h60 => ?_)
                · skip
                  have hne : S.getD a 0 ≠ S.getD b 0 := fun q => absurd (hnd a b (by omega) (by omega) q) (by omega)
                  have hb4 : S.getD a 0 < S.getD b 0 := by omega
                  refine a_aload_n C dX7_turnToNext_69 rfl ?_
                  refine a_iload_n C dX7_turnToNext_70 rfl ?_
                  refine a_iload_n C dX7_turnToNext_71 rfl ?_
                  refine a_callV (o := t) (As := [ii_v ((a : Nat) : Int), ii_v ((b : Nat) : Int)]) C (c_swap hl f w ht hta hS ((a : Nat) : Int) ((b : Nat) : Int) a b (by omega) (by omega) (by omega) (by omega)) co_X7_swap in_X7 ml_X7_34 im_X7_swap se_X7_swap rfl ht ar_X7_swap ⟨by decide, by decide, by decide, by decide⟩ rfl (Nat.le_of_ble_eq_true rfl) dX7_turnToNext_72 (a_dF ?_) a_nF
                  intro vg1 g1 hvg1
                  obtain ⟨rfl, hsg1, hfg1⟩ := hvg1
                  refine a_aload_n C dX7_turnToNext_75 rfl ?_
                  refine a_iload_n C dX7_turnToNext_76 rfl ?_
                  refine a_iconst C dX7_turnToNext_77 ?_
                  refine a_iadd C dX7_turnToNext_78 ?_
                  refine a_iconst C dX7_turnToNext_79 ?_
                  refine a_callV (o := t) (As := [ii_v (((a : Nat) : Int) + 1), ii_v 1]) C (c_sortFrom hl g1 w ht hta hsg1 (pm_swap hnd (by omega) (by omega)).2.1 (a + 1) (by omega) true) co_X7_sortFrom in_X7 ml_X7_37 im_X7_sortFrom se_X7_sortFrom rfl ht ar_X7_sortFrom ⟨by decide, by decide, by decide, by decide⟩ rfl (Nat.le_of_ble_eq_true rfl) dX7_turnToNext_80 (a_dF ?_) a_nF
                  intro vg2 g2 hvg2
                  obtain ⟨rfl, S3, hsg2, hpg2, hfg2⟩ := hvg2
                  refine a_iconst C dX7_turnToNext_83 ?_
                  refine a_zret C (by decide) ?_ (by decide) (by decide) dX7_turnToNext_84
                  rw [hPost]
                  refine ab_F_of (Or.inr ⟨rfl, S3, hsg2, nx_of hnd hb1 hb2 hb4 hb3 (fun j h1 h2 => hud j (by omega) h2) hpg2, fun o h => ?_⟩)
                  rw [hfg2 o h]
                  exact hfg1 o h
                · skip
                  have hba2 : b ≠ a + 1 := fun q => by subst q; omega
                  refine a_iinc (L' := [(0, .ref (ad t)), (1, ii_v ((a : Nat) : Int)), (2, ii_v (((b : Nat) : Int) + (-1)))]) C dX7_turnToNext_63 rfl (by decide) rfl ?_
                  rw [show ((b : Nat) : Int) + (-1) = ((b - 1 : Nat) : Int) by omega]
                  refine a_goto (tgt := 45) C dX7_turnToNext_66 rfl ?_
                  exact ih45 (b - 1) (by omega) (by omega) (by omega) (fun j h1 h2 => (Nat.lt_or_ge b j).elim (fun q => hb3 j q h2) (fun q => (show b = j by omega) ▸ (show S.getD b 0 < S.getD a 0 by omega)))
          exact loop45 (_ + 1) (S.length - 1) (Nat.lt_succ_self _) (by omega) (by omega) (fun j h1 h2 => by omega)
        · skip
          refine a_iconst C dX7_turnToNext_36 ?_
          refine a_zret C (by decide) ?_ (by decide) (by decide) dX7_turnToNext_37
          rw [hPost]
          exact ab_F_of (Or.inl ⟨rfl, rfl, nx_last_of (fun j h => hud j (by omega) h)⟩)
      · skip
        refine a_aload_n C dX7_turnToNext_11 rfl ?_
        refine a_iload_n C dX7_turnToNext_12 rfl ?_
        refine a_callV (o := t) (As := [ii_v u]) C (c_stopAtS hl f w ht hta hS u u.toNat (by omega) (by omega)) co_X7_stopAt in_X7 ml_X7_19 im_X7_stopAt se_X7_stopAt rfl ht ar_X7_stopAt ⟨by decide, by decide, by decide, by decide⟩ rfl (Nat.le_of_ble_eq_true rfl) dX7_turnToNext_13 (a_dR ?_) a_nR
        have q1 := hb u.toNat (by omega)
        have q2 := hb (u.toNat + 1) (by omega)
        refine a_aload_n C dX7_turnToNext_16 rfl ?_
        refine a_iload_n C dX7_turnToNext_17 rfl ?_
        refine a_iconst C dX7_turnToNext_18 ?_
        refine a_iadd C dX7_turnToNext_19 ?_
        refine a_callV (o := t) (As := [ii_v (u + 1)]) C (c_stopAtS hl f w ht hta hS (u + 1) (u.toNat + 1) (by omega) (by omega)) co_X7_stopAt in_X7 ml_X7_19 im_X7_stopAt se_X7_stopAt rfl ht ar_X7_stopAt ⟨by decide, by decide, by decide, by decide⟩ rfl (Nat.le_of_ble_eq_true rfl) dX7_turnToNext_20 (a_dR ?_) a_nR
        refine a_icmp_le (tgt := 32) C dX7_turnToNext_23 rfl (by unfold ii_B; omega) (by unfold ii_B; omega) (fun h23 => ?_) (fun h23 => ?_)
        · skip
          refine a_iload_n C dX7_turnToNext_32 rfl ?_
          have hu2 : u < 0 ∨ (u.toNat + 1 < S.length ∧ S.getD u.toNat 0 < S.getD (u.toNat + 1) 0) := by first | exact Or.inl (by assumption) | exact Or.inr ⟨by omega, by have q3 : S.getD u.toNat 0 ≠ S.getD (u.toNat + 1) 0 := fun q => absurd (hnd u.toNat (u.toNat + 1) (by omega) (by omega) q) (by omega); omega⟩
          refine a_if_ge (tgt := 38) C dX7_turnToNext_33 rfl (by unfold ii_B; omega) (fun h33 => ?_) (fun h33 => ?_)
          · skip
            obtain ⟨a, rfl⟩ := Int.eq_ofNat_of_zero_le (show 0 ≤ u by omega)
            rw [Int.toNat_natCast] at hu2
            have hla := hu2.resolve_left (by omega)
            refine a_aload_n C dX7_turnToNext_38 rfl ?_
            refine a_get (ci := 8) (i := 1) (v := ii_v (f t 1)) C iw_X7 rfl (by decide) rfl fl_X7_15 ht rfl dX7_turnToNext_39 ?_
            refine a_iconst C dX7_turnToNext_42 ?_
            refine a_isub C dX7_turnToNext_43 ?_
            rw [hc, show ((S.length : Nat) : Int) - 1 = ((S.length - 1 : Nat) : Int) by omega]
            refine a_istore_n (L' := [(0, .ref (ad t)), (1, ii_v ((a : Nat) : Int)), (2, ii_v (((S.length - 1) : Nat) : Int))]) C dX7_turnToNext_44 (by decide) rfl ?_
            have loop45 : ∀ (NN45 : Nat) (b : Nat), b < NN45 → (a < b) → (b < S.length) → (∀ j, b < j → j < S.length → S.getD j 0 < S.getD a 0) → ab_W p l e (ab_rm 4 0 0) s m args below meth c E base 3 (ab_Q below E base Post args s 0 0) ab_x4 ad (f, w) 0 0 45 [(0, .ref (ad t)), (1, ii_v ((a : Nat) : Int)), (2, ii_v ((b : Nat) : Int))] [] := by
              intro NN45
              induction NN45 with
              | zero => intro b hNN; exact absurd hNN (Nat.not_lt_zero _)
              | succ NN45 ih45 =>
                intro b hNN hb1 hb2 hb3
                refine a_iload_n C dX7_turnToNext_45 rfl ?_
                refine a_iload_n C dX7_turnToNext_46 rfl ?_
                refine a_icmp_le (tgt := 69) C dX7_turnToNext_47 rfl (by unfold ii_B; omega) (by unfold ii_B; omega) (fun h47 => ?_) (fun h47 => ?_)
                · skip
                  omega
                · skip
                  refine a_aload_n C dX7_turnToNext_50 rfl ?_
                  refine a_iload_n C dX7_turnToNext_51 rfl ?_
                  refine a_callV (o := t) (As := [ii_v ((b : Nat) : Int)]) C (c_stopAtS hl f w ht hta hS ((b : Nat) : Int) b (by omega) (by omega)) co_X7_stopAt in_X7 ml_X7_19 im_X7_stopAt se_X7_stopAt rfl ht ar_X7_stopAt ⟨by decide, by decide, by decide, by decide⟩ rfl (Nat.le_of_ble_eq_true rfl) dX7_turnToNext_52 (a_dR ?_) a_nR
                  refine a_aload_n C dX7_turnToNext_55 rfl ?_
                  refine a_iload_n C dX7_turnToNext_56 rfl ?_
                  refine a_callV (o := t) (As := [ii_v ((a : Nat) : Int)]) C (c_stopAtS hl f w ht hta hS ((a : Nat) : Int) a (by omega) (by omega)) co_X7_stopAt in_X7 ml_X7_19 im_X7_stopAt se_X7_stopAt rfl ht ar_X7_stopAt ⟨by decide, by decide, by decide, by decide⟩ rfl (Nat.le_of_ble_eq_true rfl) dX7_turnToNext_57 (a_dR ?_) a_nR
                  have q1 := hb a (by omega)
                  have q2 := hb b (by omega)
                  refine a_icmp_ge (tgt := 69) C dX7_turnToNext_60 rfl (by unfold ii_B; omega) (by unfold ii_B; omega) (fun h60 => ?_) (fun h60 => ?_)
                  · skip
                    have hne : S.getD a 0 ≠ S.getD b 0 := fun q => absurd (hnd a b (by omega) (by omega) q) (by omega)
                    have hb4 : S.getD a 0 < S.getD b 0 := by omega
                    refine a_aload_n C dX7_turnToNext_69 rfl ?_
                    refine a_iload_n C dX7_turnToNext_70 rfl ?_
                    refine a_iload_n C dX7_turnToNext_71 rfl ?_
                    refine a_callV (o := t) (As := [ii_v ((a : Nat) : Int), ii_v ((b : Nat) : Int)]) C (c_swap hl f w ht hta hS ((a : Nat) : Int) ((b : Nat) : Int) a b (by omega) (by omega) (by omega) (by omega)) co_X7_swap in_X7 ml_X7_34 im_X7_swap se_X7_swap rfl ht ar_X7_swap ⟨by decide, by decide, by decide, by decide⟩ rfl (Nat.le_of_ble_eq_true rfl) dX7_turnToNext_72 (a_dF ?_) a_nF
                    intro vg3 g3 hvg3
                    obtain ⟨rfl, hsg3, hfg3⟩ := hvg3
                    refine a_aload_n C dX7_turnToNext_75 rfl ?_
                    refine a_iload_n C dX7_turnToNext_76 rfl ?_
                    refine a_iconst C dX7_turnToNext_77 ?_
                    refine a_iadd C dX7_turnToNext_78 ?_
                    refine a_iconst C dX7_turnToNext_79 ?_
                    refine a_callV (o := t) (As := [ii_v (((a : Nat) : Int) + 1), ii_v 1]) C (c_sortFrom hl g3 w ht hta hsg3 (pm_swap hnd (by omega) (by omega)).2.1 (a + 1) (by omega) true) co_X7_sortFrom in_X7 ml_X7_37 im_X7_sortFrom se_X7_sortFrom rfl ht ar_X7_sortFrom ⟨by decide, by decide, by decide, by decide⟩ rfl (Nat.le_of_ble_eq_true rfl) dX7_turnToNext_80 (a_dF ?_) a_nF
                    intro vg4 g4 hvg4
                    obtain ⟨rfl, S3, hsg4, hpg4, hfg4⟩ := hvg4
                    refine a_iconst C dX7_turnToNext_83 ?_
                    refine a_zret C (by decide) ?_ (by decide) (by decide) dX7_turnToNext_84
                    rw [hPost]
                    refine ab_F_of (Or.inr ⟨rfl, S3, hsg4, nx_of hnd hb1 hb2 hb4 hb3 (fun j h1 h2 => hud j (by omega) h2) hpg4, fun o h => ?_⟩)
                    rw [hfg4 o h]
                    exact hfg3 o h
                  · skip
                    have hba2 : b ≠ a + 1 := fun q => by subst q; omega
                    refine a_iinc (L' := [(0, .ref (ad t)), (1, ii_v ((a : Nat) : Int)), (2, ii_v (((b : Nat) : Int) + (-1)))]) C dX7_turnToNext_63 rfl (by decide) rfl ?_
                    rw [show ((b : Nat) : Int) + (-1) = ((b - 1 : Nat) : Int) by omega]
                    refine a_goto (tgt := 45) C dX7_turnToNext_66 rfl ?_
                    exact ih45 (b - 1) (by omega) (by omega) (by omega) (fun j h1 h2 => (Nat.lt_or_ge b j).elim (fun q => hb3 j q h2) (fun q => (show b = j by omega) ▸ (show S.getD b 0 < S.getD a 0 by omega)))
            exact loop45 (_ + 1) (S.length - 1) (Nat.lt_succ_self _) (by omega) (by omega) (fun j h1 h2 => by omega)
          · skip
            refine a_iconst C dX7_turnToNext_36 ?_
            refine a_zret C (by decide) ?_ (by decide) (by decide) dX7_turnToNext_37
            rw [hPost]
            exact ab_F_of (Or.inl ⟨rfl, rfl, nx_last_of (fun j h => hud j (by omega) h)⟩)
        · skip
          refine a_iinc (L' := [(0, .ref (ad t)), (1, ii_v (u + (-1)))]) C dX7_turnToNext_26 rfl (by decide) rfl ?_
          refine a_goto (tgt := 7) C dX7_turnToNext_29 rfl ?_
          exact ih7 (u + (-1)) (by omega) (by omega) (fun j h1 h2 => if q : u < (j : Int) then hud j q h2 else (show u.toNat = j by omega) ▸ (show S.getD (u.toNat + 1) 0 < S.getD u.toNat 0 by omega))
  exact loop7 (_ + 1) (f t 1 - 2) (Nat.lt_succ_self _) (by omega) (fun j h1 h2 => by omega)
