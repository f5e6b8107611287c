/-! The model: refusals, quotes, request. -/
section WM
variable {f g v : Nat → Nat → Int} {r o i : Nat} {x y u z n : Int}
theorem wm_row (h : o < 53 ∨ 59 < o) : wm_T f r x y u z n o = f o := by
  unfold wm_T
  rw [ii_up_row _ _ (by omega), ii_up_row _ _ (by omega), ii_up_row _ _ (by omega), ii_up_row _ _ (by omega), ii_up_row _ _ (by omega), ii_up_row _ _ (by omega), ii_up_row _ _ (by omega)]
theorem up_oth {k : Nat} {a : Int} (h : i ≠ r) : ii_up f k r a o i = f o i := by
  by_cases h1 : o = k
  · rw [h1, ii_up_k _ _ h]
  · rw [ii_up_o _ _ _ h1]
theorem wm_oth (h : i ≠ r) : wm_T f r x y u z n o i = f o i := by
  unfold wm_T
  rw [up_oth h, up_oth h, up_oth h, up_oth h, up_oth h, up_oth h, up_oth h]
theorem wm_cong (h : g o = f o) (h1 : g 40 32 = f 40 32) (h2 : g 40 33 = f 40 33) (h3 : g 40 34 = f 40 34) : wm_T g r x y u z n o = wm_T f r x y u z n o := by
  unfold wm_T
  rw [h1, h2, h3]
  exact up_cong (up_cong (up_cong (up_cong (up_cong (up_cong (up_cong h))))))
theorem wm_at : wm_T f r x y u z n 53 r = x ∧ wm_T f r x y u z n 54 r = y ∧ wm_T f r x y u z n 55 r = u ∧ wm_T f r x y u z n 56 r = z ∧ wm_T f r x y u z n 57 r = n ∧ wm_T f r x y u z n 58 r = f 40 32 + f 40 34 ∧ wm_T f r x y u z n 59 r = pd_d x y u z * (100 + f 40 33) / 100 := by
  refine ⟨?_, ?_, ?_, ?_, ?_, ?_, ?_⟩ <;> simp [wm_T, ii_up]
theorem wm_pj (h : pj_C f v) (hnow : 0 ≤ f 40 32 ∧ f 40 32 ≤ 90000) (hdt : 0 ≤ f 40 33 ∧ f 40 33 ≤ 200) (hwt : 0 ≤ f 40 34 ∧ f 40 34 ≤ 60) (hw : ((0 ≤ x ∧ x ≤ 20) ∧ (0 ≤ y ∧ y ≤ 20)) ∧ ((0 ≤ u ∧ u ≤ 20) ∧ (0 ≤ z ∧ z ≤ 20)) ∧ 1 ≤ n ∧ n ≤ 6) :
    pj_C (wm_T f r x y u z n) (vw_f v r x y u z n (f 40 32 + f 40 34) (pd_d x y u z * (100 + f 40 33) / 100)) := by
  obtain ⟨a0, a1, a2, a3, a4, a6, a7⟩ := wm_at (f := f) (r := r) (x := x) (y := y) (u := u) (z := z) (n := n)
  refine ⟨fun q hq => ?_, fun k hk => ?_⟩
  · rw [vw_0, vw_1]
    unfold pj_x pj_y
    by_cases hn : q / 2 = r
    · rw [hn, a0, a1, a2, a3, if_pos rfl, if_pos rfl]
      split
      · exact ⟨rfl, rfl, by omega, by omega⟩
      · exact ⟨rfl, rfl, by omega, by omega⟩
    · have h1 := h.1 q hq
      unfold pj_x pj_y at h1
      rw [wm_oth hn, wm_oth hn, wm_oth hn, wm_oth hn, if_neg hn, if_neg hn]
      exact h1
  · rw [vw_2, vw_3, vw_4, vw_5]
    have h61 : wm_T f r x y u z n 61 k = f 61 k := congrFun (wm_row (by decide)) k
    by_cases hn : k = r
    · subst hn
      have hp := pd_b hw.1.1 hw.1.2 hw.2.1.1 hw.2.1.2
      have hm : 0 ≤ pd_d x y u z * (100 + f 40 33) ∧ pd_d x y u z * (100 + f 40 33) ≤ 40 * 300 := ⟨Int.mul_nonneg (by omega) (by omega), Int.mul_le_mul (by omega) (by omega) (by omega) (by omega)⟩
      have h1 := h.2 k hk
      rw [a4, a6, a7, h61, h1.2.2.2.1, if_pos rfl, if_pos rfl, if_pos rfl]
      exact ⟨rfl, rfl, rfl, rfl, by omega, by omega, by omega, h1.2.2.2.2.2.2.2⟩
    · rw [wm_oth hn, wm_oth hn, wm_oth hn, h61, if_neg hn, if_neg hn, if_neg hn]
      exact h.2 k hk
end WM
theorem wc_b (x y u z n : Int) : 0 ≤ wc_f x y u z n ∧ wc_f x y u z n ≤ 2 := by
  unfold wc_f
  split
  · split <;> omega
  · omega
theorem ab_idx {f g : Nat → Nat → Int} {n : Nat} (h : ∀ r, r < n → g 57 r = f 57 r ∧ g 63 r = f 63 r ∧ g 60 r = f 60 r) (b : Nat) : ab_n g b n = ab_n f b n := by
  induction n with
  | zero => rfl
  | succ k ih =>
    have h1 := h k (Nat.lt_succ_self k)
    rw [ab_n, ab_n, h1.1, h1.2.1, h1.2.2, ih (fun r hr => h r (Nat.lt_succ_of_lt hr))]
theorem pm_put {g h : Nat → Nat → Int} {s : pa_S} {i : Nat} {a : Int} (hi : i < 38) (he : h = ii_up g 40 i a) (hs : pm_at g s) : pm_at h s := by
  subst he
  unfold pm_at
  rw [ii_up_k _ _ (by omega), ii_up_k _ _ (by omega), ii_up_k _ _ (by omega), ii_up_k _ _ (by omega), ii_up_k _ _ (by omega)]
  exact hs
theorem pj_rows {f g v : Nat → Nat → Int} (h : pj_C f v) (hs : ∀ o i, 53 ≤ o ∧ o ≤ 61 → o ≠ 60 → g o i = f o i) : pj_C g v := by
  refine ⟨fun q hq => ?_, fun r hr => ?_⟩
  · have h1 := h.1 q hq
    unfold pj_x pj_y at h1 ⊢
    rw [hs 53 _ (by decide) (by decide), hs 54 _ (by decide) (by decide), hs 55 _ (by decide) (by decide), hs 56 _ (by decide) (by decide)]
    exact h1
  · rw [hs 57 _ (by decide) (by decide), hs 58 _ (by decide) (by decide), hs 59 _ (by decide) (by decide), hs 61 _ (by decide) (by decide)]
    exact h.2 r hr
/-- what a choice of plans comes to -/
def pa_G (v : Nat → Nat → Int) (B : Nat → Nat → Int) (TS : Nat → List Nat) (r : Nat) (now : Int) (nb : Nat) (s : pa_S) : Prop := (1 ≤ s.2.2.2.2 ∧ s.2.2.2.2 ≤ 4) ∧ ((s.1 = -1 ∧ s.2.2.2.1 = 1000000) ∨ ∃ b i j : Nat, b < nb ∧ i ≤ j ∧ j ≤ (TS b).length ∧ s.1 = (b : Int) ∧ s.2.1 = (i : Int) ∧ s.2.2.1 = (j : Int) ∧ pl_fault v (lay_f r i j (TS b) 0) (B b 6) (B b 7) now (B b 9) (B b 1) (B b 3) (B b 4) (B b 8) = 0 ∧ s.2.2.2.1 = pl_len v (B b 3) (B b 4) (lay_f r i j (TS b) 0) (B b 6) (B b 7) - pl_len v (B b 3) (B b 4) (TS b) (B b 6) (B b 7))
section PAG
variable {v : Nat → Nat → Int} {B : Nat → Nat → Int} {TS : Nat → List Nat} {r : Nat} {now : Int} {nb b i : Nat} {s : pa_S}
theorem pa_inG {j : Nat} (hb : b < nb) (hij : i ≤ j) (hj : j ≤ (TS b).length) (h : pa_G v B TS r now nb s) : pa_G v B TS r now nb (pa_in v (B b) (TS b) r now b i j s) := by
  have hF := pl_fault_b v (lay_f r i j (TS b) 0) (B b 6) (B b 7) now (B b 9) (B b 1) (B b 3) (B b 4) (B b 8)
  obtain ⟨h1, h2⟩ := h
  unfold pa_in
  split
  · rename_i hc
    exact ⟨⟨by show 1 ≤ max _ _; omega, by show max _ _ ≤ 4; omega⟩, Or.inr ⟨b, i, j, hb, hij, hj, rfl, rfl, rfl, hc.1, rfl⟩⟩
  · exact ⟨⟨by show 1 ≤ max _ _; omega, by show max _ _ ≤ 4; omega⟩, h2⟩
theorem pa_jG (hb : b < nb) (h : pa_G v B TS r now nb s) : ∀ d, i + d ≤ (TS b).length + 1 → pa_G v B TS r now nb (pa_j v (B b) (TS b) r now b i d s)
  | 0, _ => h
  | d + 1, hd => pa_inG hb (Nat.le_add_right _ _) (by omega) (pa_jG hb h d (by omega))
theorem pa_iG (hb : b < nb) (h : pa_G v B TS r now nb s) : ∀ k, k ≤ (TS b).length + 1 → pa_G v B TS r now nb (pa_i v (B b) (TS b) r now b k s)
  | 0, _ => h
  | k + 1, hk => pa_jG hb (pa_iG hb h k (by omega)) _ (by omega)
theorem pa_bG (h : pa_G v B TS r now nb s) : ∀ n, n ≤ nb → pa_G v B TS r now nb (pa_b v B TS r now n s)
  | 0, _ => h
  | n + 1, hn => pa_iG (by omega) (pa_bG h n (by omega)) _ (Nat.le_refl _)
theorem pa_0 (c4 c5 : Int) : pa_G v B TS r now nb (pa_b v B TS r now nb (-1, c4, c5, 1000000, 1)) := pa_bG ⟨⟨by show (1 : Int) ≤ 1; decide, by show (1 : Int) ≤ 4; decide⟩, Or.inl ⟨rfl, rfl⟩⟩ nb (Nat.le_refl _)
theorem pa_1 (h : pa_G v B TS r now nb s) : -1 ≤ s.1 ∧ s.1 ≤ (nb : Int) := by
  rcases h.2 with h | ⟨b, i, j, h1, -, -, h2, -⟩ <;> omega
end PAG
/-- after a quote, the model is as before but for the wish that it tried and its scratch -/
def mq_F (f g : Nat → Nat → Int) : Prop := (∀ o i, o ≠ 40 → o ≠ 75 → o ≠ 76 → i ≠ 30 → g o i = f o i) ∧ (∀ o, o ≠ 40 → o ≠ 75 → o ≠ 76 → (o < 53 ∨ 59 < o) → g o = f o) ∧ ∀ i, i < 37 → i ≠ 0 → g 40 i = f 40 i
set_option maxRecDepth 20000 in
set_option maxHeartbeats 2000000 in
theorem m_isRefused {l : Launch} {E : ab_E} {base : Nat} (hl : l.stackTraces = false) {ad : Nat → Nat} (f : Nat → Nat → Int) (w : Nat × Nat × Int64 × UInt64) {v : Nat → Nat → Int} (hv : pj_C f v) (n : Nat) (hn : f 40 30 = (n : Int)) (hn30 : n ≤ 30) (hrid : ∀ r, r < n → (0 ≤ f 57 r ∧ f 57 r ≤ 6) ∧ st_ok (f 63 r) ∧ -1 ≤ f 60 r ∧ f 60 r ≤ 10) (nb : Nat) (hnb : f 40 29 = (nb : Int)) (hnb4 : nb ≤ 4) {TS : Nat → List Nat} (hT : ∀ b, b < nb → pk_B f b ∧ mt_I f b (TS b) ∧ (TS b).length ≤ 6 ∧ ∀ j, j < (TS b).length → (TS b).getD j 0 / 2 ≤ 30) (hnow : 0 ≤ f 40 32 ∧ f 40 32 ≤ 90000) (hdt : 0 ≤ f 40 33 ∧ f 40 33 ≤ 200) (hwt : 0 ≤ f 40 34 ∧ f 40 34 ≤ 60) (x y u z m0 : Int) (zx : -2147483648 ≤ x ∧ x < 2147483648) (zy : -2147483648 ≤ y ∧ y < 2147483648) (zu : -2147483648 ≤ u ∧ u < 2147483648) (zz : -2147483648 ≤ z ∧ z < 2147483648) (zm0 : -2147483648 ≤ m0 ∧ m0 < 2147483648) (h : (((0 ≤ x ∧ x ≤ 20) ∧ (0 ≤ y ∧ y ≤ 20)) ∧ ((0 ≤ u ∧ u ≤ 20) ∧ (0 ≤ z ∧ z ≤ 20)) ∧ 1 ≤ m0 ∧ m0 ≤ 6)) (h2 : ¬ (x = u ∧ y = z)) (hfd : 0 ≤ (pa_b (vw_f v 30 x y u z m0 (f 40 32 + f 40 34) (pd_d x y u z * (100 + f 40 33) / 100)) (mB f n) TS 30 (f 40 32) nb (-1, 0, 0, 1000000, 1)).1) : ab_M l E base yX10_isRefused cX10_isRefused 6 (some .boolean) 9 0 0 [.ref (ad 40), ii_v x, ii_v y, ii_v u, ii_v z, ii_v m0] ab_x4 ad (f, w) (ab_F ad w (fun ov g => ov = some (ii_v (0)) ∧ g 40 0 = 0 ∧ pm_at g (pa_b (vw_f v 30 x y u z m0 (f 40 32 + f 40 34) (pd_d x y u z * (100 + f 40 33) / 100)) (mB f n) TS 30 (f 40 32) nb (-1, 0, 0, 1000000, 1)) ∧ pj_C g (vw_f v 30 x y u z m0 (f 40 32 + f 40 34) (pd_d x y u z * (100 + f 40 33) / 100)) ∧ mq_F f g)) := by
  obtain ⟨Post, hPost⟩ : ∃ P : ab_P, P = (ab_F ad w (fun ov g => ov = some (ii_v (0)) ∧ g 40 0 = 0 ∧ pm_at g (pa_b (vw_f v 30 x y u z m0 (f 40 32 + f 40 34) (pd_d x y u z * (100 + f 40 33) / 100)) (mB f n) TS 30 (f 40 32) nb (-1, 0, 0, 1000000, 1)) ∧ pj_C g (vw_f v 30 x y u z m0 (f 40 32 + f 40 34) (pd_d x y u z * (100 + f 40 33) / 100)) ∧ mq_F f g)) := ⟨_, rfl⟩
  rw [← hPost]
  refine ab_of RX10 [(0, .ref (ad 40)), (1, ii_v x), (2, ii_v y), (3, ii_v u), (4, ii_v z), (5, ii_v m0)] hl (by decide) rfl (Nat.le_of_ble_eq_true rfl) rfl ?_
  intro p e s m args below meth c C T0 hnm
  have hwc : (wc_f x y u z m0) = 0 := by unfold wc_f; rw [if_pos h, if_neg h2]
  refine a_aload_n C dX10_isRefused_0 rfl ?_
  refine a_aload_n C dX10_isRefused_1 rfl ?_
  refine a_iload_n C dX10_isRefused_2 rfl ?_
  refine a_iload_n C dX10_isRefused_3 rfl ?_
  refine a_iload_n C dX10_isRefused_4 rfl ?_
  refine a_iload C dX10_isRefused_5 rfl ?_
  refine a_iload C dX10_isRefused_7 rfl ?_
  refine a_callV (o := 40) (As := [ii_v x, ii_v y, ii_v u, ii_v z, ii_v m0]) C (m_wrong hl f w x y u z m0 (by omega) (by omega) (by omega) (by omega) (by omega)) co_X10_wrong in_X10 ml_X10_205 im_X10_wrong se_X10_wrong rfl rfl ar_X10_wrong ⟨by decide, by decide, by decide, by decide⟩ rfl (Nat.le_of_ble_eq_true rfl) dX10_isRefused_9 (a_dR ?_) a_nR
  refine a_put (ci := 11) (i := 0) C iw_X10 rfl (by decide) rfl tyX10 tyX10_ok nmX10 rfl rfl fl_X10_114 rfl rfl rfl rfl dX10_isRefused_12 ?_
  obtain ⟨g1, eg1⟩ : ∃ F : Nat → Nat → Int, F = ii_up f 40 0 (wc_f x y u z m0) := ⟨_, rfl⟩
  rw [← eg1]
  have hrg1 : ∀ o, o ≠ 40 → g1 o = f o := fun o h => by rw [eg1]; exact ii_up_row _ _ h
  have h4g1 : ∀ i, i ≠ 0 → g1 40 i = f 40 i := fun i h => by rw [eg1]; exact ii_up_k _ _ h
  refine a_aload_n C dX10_isRefused_15 rfl ?_
  refine a_get (ci := 11) (i := 0) (v := ii_v (g1 40 0)) C iw_X10 rfl (by decide) rfl fl_X10_114 rfl rfl dX10_isRefused_16 ?_
  refine a_top (w := ii_v (wc_f x y u z m0)) (congrArg (fun q => ii_v q) (show g1 40 0 = (wc_f x y u z m0) by rw [eg1, ii_up_s])) ?_
  refine a_if_le (tgt := 24) C dX10_isRefused_19 rfl (by unfold ii_B; omega) (fun h19 => ?_) (fun h19 => ?_)
  · skip
    refine a_aload_n C dX10_isRefused_24 rfl ?_
    refine a_bipush C dX10_isRefused_25 (by decide) ?_
    refine a_iload_n C dX10_isRefused_27 rfl ?_
    refine a_iload_n C dX10_isRefused_28 rfl ?_
    refine a_iload_n C dX10_isRefused_29 rfl ?_
    refine a_iload C dX10_isRefused_30 rfl ?_
    refine a_iload C dX10_isRefused_32 rfl ?_
    refine a_callV (o := 40) (As := [ii_v 30, ii_v x, ii_v y, ii_v u, ii_v z, ii_v m0]) C (m_writes hl g1 w 30 (by decide) x y u z m0 h (by rw [h4g1 33 (by decide)]; exact hdt)) co_X10_writes in_X10 ml_X10_209 im_X10_writes se_X10_writes rfl rfl ar_X10_writes ⟨by decide, by decide, by decide, by decide⟩ rfl (Nat.le_of_ble_eq_true rfl) dX10_isRefused_34 (a_dV ?_) a_nV
    obtain ⟨g2, eg2⟩ : ∃ F : Nat → Nat → Int, F = wm_T g1 30 x y u z m0 := ⟨_, rfl⟩
    rw [← eg2]
    have hrg2 : ∀ o, o ≠ 40 → (o < 53 ∨ 59 < o) → g2 o = f o := fun o h1 h2 => by rw [eg2, wm_row h2]; exact hrg1 o h1
    have hig2 : ∀ o i, o ≠ 40 → i ≠ 30 → g2 o i = f o i := fun o i h1 h2 => by rw [eg2, wm_oth h2]; exact congrFun (hrg1 o h1) i
    have h4g2 : ∀ i, i ≠ 0 → g2 40 i = f 40 i := fun i h1 => by rw [eg2, wm_row (by decide)]; exact h4g1 i h1
    have h0g2 : g2 40 0 = 0 := by rw [eg2, wm_row (by decide), eg1, ii_up_s]; exact hwc
    have hvg2 : pj_C g2 (vw_f v 30 x y u z m0 (f 40 32 + f 40 34) (pd_d x y u z * (100 + f 40 33) / 100)) := by have hz := wm_pj (f := g1) (r := 30) (pj_same hv (fun o2 h => hrg1 o2 (by omega))) (by rw [h4g1 32 (by decide)]; exact hnow) (by rw [h4g1 33 (by decide)]; exact hdt) (by rw [h4g1 34 (by decide)]; exact hwt) h; rw [h4g1 32 (by decide), h4g1 33 (by decide), h4g1 34 (by decide), ← eg2] at hz; exact hz
    have hridg : ∀ r, r < n → (0 ≤ g2 57 r ∧ g2 57 r ≤ 6) ∧ st_ok (g2 63 r) ∧ -1 ≤ g2 60 r ∧ g2 60 r ≤ 10 := fun r hr => by rw [hig2 57 r (by decide) (by omega), hig2 63 r (by decide) (by omega), hig2 60 r (by decide) (by omega)]; exact hrid r hr
    have hmBg : ∀ b, mB g2 n b = mB f n b := fun b => mB_same (hrg2 41 (by decide) (by decide)) (hrg2 43 (by decide) (by decide)) (hrg2 44 (by decide) (by decide)) (hrg2 45 (by decide) (by decide)) (hrg2 46 (by decide) (by decide)) (hrg2 47 (by decide) (by decide)) (ab_idx (fun r hr => ⟨hig2 57 r (by decide) (by omega), hig2 63 r (by decide) (by omega), hig2 60 r (by decide) (by omega)⟩) b)
    have hTg : ∀ b, b < nb → pk_B g2 b ∧ mt_I g2 b (TS b) ∧ (TS b).length ≤ 6 ∧ ∀ j, j < (TS b).length → (TS b).getD j 0 / 2 ≤ 30 := fun b hb => ⟨by unfold pk_B; rw [hrg2 41 (by decide) (by decide), hrg2 43 (by decide) (by decide), hrg2 44 (by decide) (by decide), hrg2 45 (by decide) (by decide), hrg2 46 (by decide) (by decide), hrg2 47 (by decide) (by decide)]; exact (hT b hb).1, mt_same (hT b hb).2.1 (hrg2 51 (by decide) (by decide)) (hrg2 52 (by decide) (by decide)), (hT b hb).2.2⟩
    refine a_aload_n C dX10_isRefused_37 rfl ?_
    refine a_bipush C dX10_isRefused_38 (by decide) ?_
    refine a_callV (o := 40) (As := [ii_v 30]) C (m_plans hl g2 w hvg2 n (by rw [h4g2 30 (by decide)]; exact hn) hn30 hridg nb (by rw [h4g2 29 (by decide)]; exact hnb) hnb4 hTg (by rw [h4g2 32 (by decide)]; exact ⟨hnow.1, by omega⟩) 30 (by decide) 0 0) co_X10_plans in_X10 ml_X10_213 im_X10_plans se_X10_plans rfl rfl ar_X10_plans ⟨by decide, by decide, by decide, by decide⟩ rfl (Nat.le_of_ble_eq_true rfl) dX10_isRefused_40 (a_dF ?_) a_nF
    intro vg3 g3 hvg3
    obtain ⟨rfl, hatg3, hfg3, hpg3⟩ := hvg3
    rw [h4g2 32 (by decide), pa_b_rows (B2 := mB f n) (fun b _ => hmBg b)] at hatg3
    have hatc := hatg3
    have hG38 := pa_1 (pa_0 (v := (vw_f v 30 x y u z m0 (f 40 32 + f 40 34) (pd_d x y u z * (100 + f 40 33) / 100))) (B := mB f n) (TS := TS) (r := 30) (now := f 40 32) (nb := nb) 0 0)
    obtain ⟨hq1g3, hq2g3, hq3g3, -⟩ := hatg3
    have hrg3 : ∀ o, o ≠ 40 → o ≠ 75 → o ≠ 76 → (o < 53 ∨ 59 < o) → g3 o = f o := fun o h1 h2 h3 h5 => (hfg3 o h1 h2 h3).trans (hrg2 o h1 h5)
    have hig3 : ∀ o i, o ≠ 40 → o ≠ 75 → o ≠ 76 → i ≠ 30 → g3 o i = f o i := fun o i h1 h2 h3 h5 => (congrFun (hfg3 o h1 h2 h3) i).trans (hig2 o i h1 h5)
    have h4g3 : ∀ i, i < 37 → i ≠ 0 → g3 40 i = f 40 i := fun i h1 h2 => (hpg3 i (Or.inl h1)).trans (h4g2 i h2)
    have h0g3 : g3 40 0 = 0 := (hpg3 0 (by decide)).trans h0g2
    have hvg3 : pj_C g3 (vw_f v 30 x y u z m0 (f 40 32 + f 40 34) (pd_d x y u z * (100 + f 40 33) / 100)) := pj_same hvg2 (fun o2 h => hfg3 o2 (by omega) (by omega) (by omega))
    refine a_aload_n C dX10_isRefused_43 rfl ?_
    refine a_get (ci := 11) (i := 38) (v := ii_v (g3 40 38)) C iw_X10 rfl (by decide) rfl fl_X10_173 rfl rfl dX10_isRefused_44 ?_
    refine a_top (w := ii_v ((pa_b (vw_f v 30 x y u z m0 (f 40 32 + f 40 34) (pd_d x y u z * (100 + f 40 33) / 100)) (mB f n) TS 30 (f 40 32) nb (-1, 0, 0, 1000000, 1)).1)) (congrArg (fun q => ii_v q) hq1g3) ?_
    refine a_if_ge (tgt := 56) C dX10_isRefused_47 rfl (by unfold ii_B; omega) (fun h47 => ?_) (fun h47 => ?_)
    · skip
      refine a_aload_n C dX10_isRefused_56 rfl ?_
      refine a_get (ci := 11) (i := 0) (v := ii_v (g3 40 0)) C iw_X10 rfl (by decide) rfl fl_X10_114 rfl rfl dX10_isRefused_57 ?_
      refine a_top (w := ii_v 0) (congrArg (fun q => ii_v q) h0g3) ?_
      refine a_if_le (tgt := 67) C dX10_isRefused_60 rfl (by unfold ii_B; omega) (fun h60 => ?_) (fun h60 => ?_)
      · skip
        refine a_iconst C dX10_isRefused_67 ?_
        refine a_zret C (by decide) ?_ (by decide) (by decide) dX10_isRefused_68
        rw [hPost]
        exact ab_F_of ⟨rfl, h0g3, hatc, hvg3, hig3, hrg3, h4g3⟩
      · skip
        omega
    · skip
      omega
  · skip
    omega
set_option maxRecDepth 20000 in
set_option maxHeartbeats 2000000 in
theorem n3_isRefused {l : Launch} {E : ab_E} {base : Nat} (hl : l.stackTraces = false) {ad : Nat → Nat} (f : Nat → Nat → Int) (w : Nat × Nat × Int64 × UInt64) {v : Nat → Nat → Int} (hv : pj_C f v) (n : Nat) (hn : f 40 30 = (n : Int)) (hn30 : n ≤ 30) (hrid : ∀ r, r < n → (0 ≤ f 57 r ∧ f 57 r ≤ 6) ∧ st_ok (f 63 r) ∧ -1 ≤ f 60 r ∧ f 60 r ≤ 10) (nb : Nat) (hnb : f 40 29 = (nb : Int)) (hnb4 : nb ≤ 4) {TS : Nat → List Nat} (hT : ∀ b, b < nb → pk_B f b ∧ mt_I f b (TS b) ∧ (TS b).length ≤ 6 ∧ ∀ j, j < (TS b).length → (TS b).getD j 0 / 2 ≤ 30) (hnow : 0 ≤ f 40 32 ∧ f 40 32 ≤ 90000) (hdt : 0 ≤ f 40 33 ∧ f 40 33 ≤ 200) (hwt : 0 ≤ f 40 34 ∧ f 40 34 ≤ 60) (x y u z m0 : Int) (zx : -2147483648 ≤ x ∧ x < 2147483648) (zy : -2147483648 ≤ y ∧ y < 2147483648) (zu : -2147483648 ≤ u ∧ u < 2147483648) (zz : -2147483648 ≤ z ∧ z < 2147483648) (zm0 : -2147483648 ≤ m0 ∧ m0 < 2147483648) (h : (((0 ≤ x ∧ x ≤ 20) ∧ (0 ≤ y ∧ y ≤ 20)) ∧ ((0 ≤ u ∧ u ≤ 20) ∧ (0 ≤ z ∧ z ≤ 20)) ∧ 1 ≤ m0 ∧ m0 ≤ 6)) (h2 : ¬ (x = u ∧ y = z)) (hfd : (pa_b (vw_f v 30 x y u z m0 (f 40 32 + f 40 34) (pd_d x y u z * (100 + f 40 33) / 100)) (mB f n) TS 30 (f 40 32) nb (-1, 0, 0, 1000000, 1)).1 < 0) : ab_M l E base yX10_isRefused cX10_isRefused 6 (some .boolean) 9 0 0 [.ref (ad 40), ii_v x, ii_v y, ii_v u, ii_v z, ii_v m0] ab_x4 ad (f, w) (ab_F ad w (fun ov g => ov = some (ii_v (1)) ∧ g 40 0 = 3 ∧ pm_at g (pa_b (vw_f v 30 x y u z m0 (f 40 32 + f 40 34) (pd_d x y u z * (100 + f 40 33) / 100)) (mB f n) TS 30 (f 40 32) nb (-1, 0, 0, 1000000, 1)) ∧ pj_C g (vw_f v 30 x y u z m0 (f 40 32 + f 40 34) (pd_d x y u z * (100 + f 40 33) / 100)) ∧ mq_F f g)) := by
  obtain ⟨Post, hPost⟩ : ∃ P : ab_P, P = (ab_F ad w (fun ov g => ov = some (ii_v (1)) ∧ g 40 0 = 3 ∧ pm_at g (pa_b (vw_f v 30 x y u z m0 (f 40 32 + f 40 34) (pd_d x y u z * (100 + f 40 33) / 100)) (mB f n) TS 30 (f 40 32) nb (-1, 0, 0, 1000000, 1)) ∧ pj_C g (vw_f v 30 x y u z m0 (f 40 32 + f 40 34) (pd_d x y u z * (100 + f 40 33) / 100)) ∧ mq_F f g)) := ⟨_, rfl⟩
  rw [← hPost]
  refine ab_of RX10 [(0, .ref (ad 40)), (1, ii_v x), (2, ii_v y), (3, ii_v u), (4, ii_v z), (5, ii_v m0)] hl (by decide) rfl (Nat.le_of_ble_eq_true rfl) rfl ?_
  intro p e s m args below meth c C T0 hnm
  have hwc : (wc_f x y u z m0) = 0 := by unfold wc_f; rw [if_pos h, if_neg h2]
  refine a_aload_n C dX10_isRefused_0 rfl ?_
  refine a_aload_n C dX10_isRefused_1 rfl ?_
  refine a_iload_n C dX10_isRefused_2 rfl ?_
  refine a_iload_n C dX10_isRefused_3 rfl ?_
  refine a_iload_n C dX10_isRefused_4 rfl ?_
  refine a_iload C dX10_isRefused_5 rfl ?_
  refine a_iload C dX10_isRefused_7 rfl ?_
  refine a_callV (o := 40) (As := [ii_v x, ii_v y, ii_v u, ii_v z, ii_v m0]) C (m_wrong hl f w x y u z m0 (by omega) (by omega) (by omega) (by omega) (by omega)) co_X10_wrong in_X10 ml_X10_205 im_X10_wrong se_X10_wrong rfl rfl ar_X10_wrong ⟨by decide, by decide, by decide, by decide⟩ rfl (Nat.le_of_ble_eq_true rfl) dX10_isRefused_9 (a_dR ?_) a_nR
  refine a_put (ci := 11) (i := 0) C iw_X10 rfl (by decide) rfl tyX10 tyX10_ok nmX10 rfl rfl fl_X10_114 rfl rfl rfl rfl dX10_isRefused_12 ?_
  obtain ⟨g1, eg1⟩ : ∃ F : Nat → Nat → Int, F = ii_up f 40 0 (wc_f x y u z m0) := ⟨_, rfl⟩
  rw [← eg1]
  have hrg1 : ∀ o, o ≠ 40 → g1 o = f o := fun o h => by rw [eg1]; exact ii_up_row _ _ h
  have h4g1 : ∀ i, i ≠ 0 → g1 40 i = f 40 i := fun i h => by rw [eg1]; exact ii_up_k _ _ h
  refine a_aload_n C dX10_isRefused_15 rfl ?_
  refine a_get (ci := 11) (i := 0) (v := ii_v (g1 40 0)) C iw_X10 rfl (by decide) rfl fl_X10_114 rfl rfl dX10_isRefused_16 ?_
  refine a_top (w := ii_v (wc_f x y u z m0)) (congrArg (fun q => ii_v q) (show g1 40 0 = (wc_f x y u z m0) by rw [eg1, ii_up_s])) ?_
  refine a_if_le (tgt := 24) C dX10_isRefused_19 rfl (by unfold ii_B; omega) (fun h19 => ?_) (fun h19 => ?_)
  · skip
    refine a_aload_n C dX10_isRefused_24 rfl ?_
    refine a_bipush C dX10_isRefused_25 (by decide) ?_
    refine a_iload_n C dX10_isRefused_27 rfl ?_
    refine a_iload_n C dX10_isRefused_28 rfl ?_
    refine a_iload_n C dX10_isRefused_29 rfl ?_
    refine a_iload C dX10_isRefused_30 rfl ?_
    refine a_iload C dX10_isRefused_32 rfl ?_
    refine a_callV (o := 40) (As := [ii_v 30, ii_v x, ii_v y, ii_v u, ii_v z, ii_v m0]) C (m_writes hl g1 w 30 (by decide) x y u z m0 h (by rw [h4g1 33 (by decide)]; exact hdt)) co_X10_writes in_X10 ml_X10_209 im_X10_writes se_X10_writes rfl rfl ar_X10_writes ⟨by decide, by decide, by decide, by decide⟩ rfl (Nat.le_of_ble_eq_true rfl) dX10_isRefused_34 (a_dV ?_) a_nV
    obtain ⟨g2, eg2⟩ : ∃ F : Nat → Nat → Int, F = wm_T g1 30 x y u z m0 := ⟨_, rfl⟩
    rw [← eg2]
    have hrg2 : ∀ o, o ≠ 40 → (o < 53 ∨ 59 < o) → g2 o = f o := fun o h1 h2 => by rw [eg2, wm_row h2]; exact hrg1 o h1
    have hig2 : ∀ o i, o ≠ 40 → i ≠ 30 → g2 o i = f o i := fun o i h1 h2 => by rw [eg2, wm_oth h2]; exact congrFun (hrg1 o h1) i
    have h4g2 : ∀ i, i ≠ 0 → g2 40 i = f 40 i := fun i h1 => by rw [eg2, wm_row (by decide)]; exact h4g1 i h1
    have h0g2 : g2 40 0 = 0 := by rw [eg2, wm_row (by decide), eg1, ii_up_s]; exact hwc
    have hvg2 : pj_C g2 (vw_f v 30 x y u z m0 (f 40 32 + f 40 34) (pd_d x y u z * (100 + f 40 33) / 100)) := by have hz := wm_pj (f := g1) (r := 30) (pj_same hv (fun o2 h => hrg1 o2 (by omega))) (by rw [h4g1 32 (by decide)]; exact hnow) (by rw [h4g1 33 (by decide)]; exact hdt) (by rw [h4g1 34 (by decide)]; exact hwt) h; rw [h4g1 32 (by decide), h4g1 33 (by decide), h4g1 34 (by decide), ← eg2] at hz; exact hz
    have hridg : ∀ r, r < n → (0 ≤ g2 57 r ∧ g2 57 r ≤ 6) ∧ st_ok (g2 63 r) ∧ -1 ≤ g2 60 r ∧ g2 60 r ≤ 10 := fun r hr => by rw [hig2 57 r (by decide) (by omega), hig2 63 r (by decide) (by omega), hig2 60 r (by decide) (by omega)]; exact hrid r hr
    have hmBg : ∀ b, mB g2 n b = mB f n b := fun b => mB_same (hrg2 41 (by decide) (by decide)) (hrg2 43 (by decide) (by decide)) (hrg2 44 (by decide) (by decide)) (hrg2 45 (by decide) (by decide)) (hrg2 46 (by decide) (by decide)) (hrg2 47 (by decide) (by decide)) (ab_idx (fun r hr => ⟨hig2 57 r (by decide) (by omega), hig2 63 r (by decide) (by omega), hig2 60 r (by decide) (by omega)⟩) b)
    have hTg : ∀ b, b < nb → pk_B g2 b ∧ mt_I g2 b (TS b) ∧ (TS b).length ≤ 6 ∧ ∀ j, j < (TS b).length → (TS b).getD j 0 / 2 ≤ 30 := fun b hb => ⟨by unfold pk_B; rw [hrg2 41 (by decide) (by decide), hrg2 43 (by decide) (by decide), hrg2 44 (by decide) (by decide), hrg2 45 (by decide) (by decide), hrg2 46 (by decide) (by decide), hrg2 47 (by decide) (by decide)]; exact (hT b hb).1, mt_same (hT b hb).2.1 (hrg2 51 (by decide) (by decide)) (hrg2 52 (by decide) (by decide)), (hT b hb).2.2⟩
    refine a_aload_n C dX10_isRefused_37 rfl ?_
    refine a_bipush C dX10_isRefused_38 (by decide) ?_
    refine a_callV (o := 40) (As := [ii_v 30]) C (m_plans hl g2 w hvg2 n (by rw [h4g2 30 (by decide)]; exact hn) hn30 hridg nb (by rw [h4g2 29 (by decide)]; exact hnb) hnb4 hTg (by rw [h4g2 32 (by decide)]; exact ⟨hnow.1, by omega⟩) 30 (by decide) 0 0) co_X10_plans in_X10 ml_X10_213 im_X10_plans se_X10_plans rfl rfl ar_X10_plans ⟨by decide, by decide, by decide, by decide⟩ rfl (Nat.le_of_ble_eq_true rfl) dX10_isRefused_40 (a_dF ?_) a_nF
    intro vg3 g3 hvg3
    obtain ⟨rfl, hatg3, hfg3, hpg3⟩ := hvg3
    rw [h4g2 32 (by decide), pa_b_rows (B2 := mB f n) (fun b _ => hmBg b)] at hatg3
    have hatc := hatg3
    have hG38 := pa_1 (pa_0 (v := (vw_f v 30 x y u z m0 (f 40 32 + f 40 34) (pd_d x y u z * (100 + f 40 33) / 100))) (B := mB f n) (TS := TS) (r := 30) (now := f 40 32) (nb := nb) 0 0)
    obtain ⟨hq1g3, hq2g3, hq3g3, -⟩ := hatg3
    have hrg3 : ∀ o, o ≠ 40 → o ≠ 75 → o ≠ 76 → (o < 53 ∨ 59 < o) → g3 o = f o := fun o h1 h2 h3 h5 => (hfg3 o h1 h2 h3).trans (hrg2 o h1 h5)
    have hig3 : ∀ o i, o ≠ 40 → o ≠ 75 → o ≠ 76 → i ≠ 30 → g3 o i = f o i := fun o i h1 h2 h3 h5 => (congrFun (hfg3 o h1 h2 h3) i).trans (hig2 o i h1 h5)
    have h4g3 : ∀ i, i < 37 → i ≠ 0 → g3 40 i = f 40 i := fun i h1 h2 => (hpg3 i (Or.inl h1)).trans (h4g2 i h2)
    have h0g3 : g3 40 0 = 0 := (hpg3 0 (by decide)).trans h0g2
    have hvg3 : pj_C g3 (vw_f v 30 x y u z m0 (f 40 32 + f 40 34) (pd_d x y u z * (100 + f 40 33) / 100)) := pj_same hvg2 (fun o2 h => hfg3 o2 (by omega) (by omega) (by omega))
    refine a_aload_n C dX10_isRefused_43 rfl ?_
    refine a_get (ci := 11) (i := 38) (v := ii_v (g3 40 38)) C iw_X10 rfl (by decide) rfl fl_X10_173 rfl rfl dX10_isRefused_44 ?_
    refine a_top (w := ii_v ((pa_b (vw_f v 30 x y u z m0 (f 40 32 + f 40 34) (pd_d x y u z * (100 + f 40 33) / 100)) (mB f n) TS 30 (f 40 32) nb (-1, 0, 0, 1000000, 1)).1)) (congrArg (fun q => ii_v q) hq1g3) ?_
    refine a_if_ge (tgt := 56) C dX10_isRefused_47 rfl (by unfold ii_B; omega) (fun h47 => ?_) (fun h47 => ?_)
    · skip
      omega
    · skip
      refine a_aload_n C dX10_isRefused_50 rfl ?_
      refine a_iconst C dX10_isRefused_51 ?_
      refine a_callV (o := 40) (As := [ii_v 3]) C (m_fails hl g3 w 3) co_X10_fails in_X10 ml_X10_127 im_X10_fails se_X10_fails rfl rfl ar_X10_fails ⟨by decide, by decide, by decide, by decide⟩ rfl (Nat.le_of_ble_eq_true rfl) dX10_isRefused_52 (a_dR ?_) a_nR
      obtain ⟨g4, eg4⟩ : ∃ F : Nat → Nat → Int, F = ii_up g3 40 0 3 := ⟨_, rfl⟩
      rw [← eg4]
      refine a_pop C dX10_isRefused_55 rfl ?_
      refine a_aload_n C dX10_isRefused_56 rfl ?_
      refine a_get (ci := 11) (i := 0) (v := ii_v (g4 40 0)) C iw_X10 rfl (by decide) rfl fl_X10_114 rfl rfl dX10_isRefused_57 ?_
      refine a_top (w := ii_v 3) (congrArg (fun q => ii_v q) (show g4 40 0 = 3 by rw [eg4, ii_up_s])) ?_
      refine a_if_le (tgt := 67) C dX10_isRefused_60 rfl (by unfold ii_B; omega) (fun h60 => ?_) (fun h60 => ?_)
      · skip
        omega
      · skip
        refine a_iconst C dX10_isRefused_63 ?_
        refine a_goto (tgt := 68) C dX10_isRefused_64 rfl ?_
        refine a_zret C (by decide) ?_ (by decide) (by decide) dX10_isRefused_68
        rw [hPost]
        exact ab_F_of ⟨rfl, by rw [eg4]; exact ii_up_s _ _ _ _, pm_put (by decide) eg4 hatc, pj_same hvg3 (fun o2 h => by rw [eg4]; exact ii_up_row _ _ (by omega)), fun o i h1 h2 h3 h5 => by rw [eg4, ii_up_row _ _ h1]; exact hig3 o i h1 h2 h3 h5, fun o h1 h2 h3 h5 => by rw [eg4, ii_up_row _ _ h1]; exact hrg3 o h1 h2 h3 h5, fun i h1 h2 => by rw [eg4, ii_up_k _ _ h2]; exact h4g3 i h1 h2⟩
  · skip
    omega
set_option maxRecDepth 20000 in
set_option maxHeartbeats 2000000 in
theorem n_isRefused {l : Launch} {E : ab_E} {base : Nat} (hl : l.stackTraces = false) {ad : Nat → Nat} (f : Nat → Nat → Int) (w : Nat × Nat × Int64 × UInt64) (x y u z m0 : Int) (zx : -2147483648 ≤ x ∧ x < 2147483648) (zy : -2147483648 ≤ y ∧ y < 2147483648) (zu : -2147483648 ≤ u ∧ u < 2147483648) (zz : -2147483648 ≤ z ∧ z < 2147483648) (zm0 : -2147483648 ≤ m0 ∧ m0 < 2147483648) (h : 0 < (wc_f x y u z m0)) : ab_M l E base yX10_isRefused cX10_isRefused 6 (some .boolean) 4 0 0 [.ref (ad 40), ii_v x, ii_v y, ii_v u, ii_v z, ii_v m0] ab_x4 ad (f, w) (ab_R (ii_v 1) ab_x4 ad (ii_up f 40 0 (wc_f x y u z m0), w)) := by
  obtain ⟨Post, hPost⟩ : ∃ P : ab_P, P = (ab_R (ii_v 1) ab_x4 ad (ii_up f 40 0 (wc_f x y u z m0), w)) := ⟨_, rfl⟩
  rw [← hPost]
  refine ab_of RX10 [(0, .ref (ad 40)), (1, ii_v x), (2, ii_v y), (3, ii_v u), (4, ii_v z), (5, ii_v m0)] hl (by decide) rfl (Nat.le_of_ble_eq_true rfl) rfl ?_
  intro p e s m args below meth c C T0 hnm
  have hwb := wc_b x y u z m0
  refine a_aload_n C dX10_isRefused_0 rfl ?_
  refine a_aload_n C dX10_isRefused_1 rfl ?_
  refine a_iload_n C dX10_isRefused_2 rfl ?_
  refine a_iload_n C dX10_isRefused_3 rfl ?_
  refine a_iload_n C dX10_isRefused_4 rfl ?_
  refine a_iload C dX10_isRefused_5 rfl ?_
  refine a_iload C dX10_isRefused_7 rfl ?_
  refine a_callV (o := 40) (As := [ii_v x, ii_v y, ii_v u, ii_v z, ii_v m0]) C (m_wrong hl f w x y u z m0 (by omega) (by omega) (by omega) (by omega) (by omega)) co_X10_wrong in_X10 ml_X10_205 im_X10_wrong se_X10_wrong rfl rfl ar_X10_wrong ⟨by decide, by decide, by decide, by decide⟩ rfl (Nat.le_of_ble_eq_true rfl) dX10_isRefused_9 (a_dR ?_) a_nR
  refine a_put (ci := 11) (i := 0) C iw_X10 rfl (by decide) rfl tyX10 tyX10_ok nmX10 rfl rfl fl_X10_114 rfl rfl rfl rfl dX10_isRefused_12 ?_
  obtain ⟨g1, eg1⟩ : ∃ F : Nat → Nat → Int, F = ii_up f 40 0 (wc_f x y u z m0) := ⟨_, rfl⟩
  rw [← eg1]
  refine a_aload_n C dX10_isRefused_15 rfl ?_
  refine a_get (ci := 11) (i := 0) (v := ii_v (g1 40 0)) C iw_X10 rfl (by decide) rfl fl_X10_114 rfl rfl dX10_isRefused_16 ?_
  refine a_top (w := ii_v (wc_f x y u z m0)) (congrArg (fun q => ii_v q) (show g1 40 0 = (wc_f x y u z m0) by rw [eg1, ii_up_s])) ?_
  refine a_if_le (tgt := 24) C dX10_isRefused_19 rfl (by unfold ii_B; omega) (fun h19 => ?_) (fun h19 => ?_)
  · skip
    omega
  · skip
    refine a_iconst C dX10_isRefused_22 ?_
    refine a_zret C (by decide) ?_ (by decide) (by decide) dX10_isRefused_23
    rw [hPost]
    subst eg1
    exact ⟨rfl, rfl, rfl, by first | rfl | rw [ii_up_up]⟩
set_option maxRecDepth 20000 in
set_option maxHeartbeats 2000000 in
theorem m_quote {l : Launch} {E : ab_E} {base : Nat} (hl : l.stackTraces = false) {ad : Nat → Nat} (f : Nat → Nat → Int) (w : Nat × Nat × Int64 × UInt64) {v : Nat → Nat → Int} (hv : pj_C f v) (n : Nat) (hn : f 40 30 = (n : Int)) (hn30 : n ≤ 30) (hrid : ∀ r, r < n → (0 ≤ f 57 r ∧ f 57 r ≤ 6) ∧ st_ok (f 63 r) ∧ -1 ≤ f 60 r ∧ f 60 r ≤ 10) (nb : Nat) (hnb : f 40 29 = (nb : Int)) (hnb4 : nb ≤ 4) {TS : Nat → List Nat} (hT : ∀ b, b < nb → pk_B f b ∧ mt_I f b (TS b) ∧ (TS b).length ≤ 6 ∧ ∀ j, j < (TS b).length → (TS b).getD j 0 / 2 ≤ 30) (hnow : 0 ≤ f 40 32 ∧ f 40 32 ≤ 90000) (hdt : 0 ≤ f 40 33 ∧ f 40 33 ≤ 200) (hwt : 0 ≤ f 40 34 ∧ f 40 34 ≤ 60) (x y u z m0 : Int) (zx : -2147483648 ≤ x ∧ x < 2147483648) (zy : -2147483648 ≤ y ∧ y < 2147483648) (zu : -2147483648 ≤ u ∧ u < 2147483648) (zz : -2147483648 ≤ z ∧ z < 2147483648) (zm0 : -2147483648 ≤ m0 ∧ m0 < 2147483648) (h : (((0 ≤ x ∧ x ≤ 20) ∧ (0 ≤ y ∧ y ≤ 20)) ∧ ((0 ≤ u ∧ u ≤ 20) ∧ (0 ≤ z ∧ z ≤ 20)) ∧ 1 ≤ m0 ∧ m0 ≤ 6)) (h2 : ¬ (x = u ∧ y = z)) (hfd : 0 ≤ (pa_b (vw_f v 30 x y u z m0 (f 40 32 + f 40 34) (pd_d x y u z * (100 + f 40 33) / 100)) (mB f n) TS 30 (f 40 32) nb (-1, 0, 0, 1000000, 1)).1) : ab_M l E base yX10_quote cX10_quote 6 (some .int) 10 0 0 [.ref (ad 40), ii_v x, ii_v y, ii_v u, ii_v z, ii_v m0] ab_x4 ad (f, w) (ab_F ad w (fun ov g => ov = some (ii_v ((pa_b (vw_f v 30 x y u z m0 (f 40 32 + f 40 34) (pd_d x y u z * (100 + f 40 33) / 100)) (mB f n) TS 30 (f 40 32) nb (-1, 0, 0, 1000000, 1)).2.2.2.1)) ∧ g 40 0 = 0 ∧ pm_at g (pa_b (vw_f v 30 x y u z m0 (f 40 32 + f 40 34) (pd_d x y u z * (100 + f 40 33) / 100)) (mB f n) TS 30 (f 40 32) nb (-1, 0, 0, 1000000, 1)) ∧ pj_C g (vw_f v 30 x y u z m0 (f 40 32 + f 40 34) (pd_d x y u z * (100 + f 40 33) / 100)) ∧ mq_F f g)) := by
  obtain ⟨Post, hPost⟩ : ∃ P : ab_P, P = (ab_F ad w (fun ov g => ov = some (ii_v ((pa_b (vw_f v 30 x y u z m0 (f 40 32 + f 40 34) (pd_d x y u z * (100 + f 40 33) / 100)) (mB f n) TS 30 (f 40 32) nb (-1, 0, 0, 1000000, 1)).2.2.2.1)) ∧ g 40 0 = 0 ∧ pm_at g (pa_b (vw_f v 30 x y u z m0 (f 40 32 + f 40 34) (pd_d x y u z * (100 + f 40 33) / 100)) (mB f n) TS 30 (f 40 32) nb (-1, 0, 0, 1000000, 1)) ∧ pj_C g (vw_f v 30 x y u z m0 (f 40 32 + f 40 34) (pd_d x y u z * (100 + f 40 33) / 100)) ∧ mq_F f g)) := ⟨_, rfl⟩
  rw [← hPost]
  refine ab_of RX10 [(0, .ref (ad 40)), (1, ii_v x), (2, ii_v y), (3, ii_v u), (4, ii_v z), (5, ii_v m0)] hl (by decide) rfl (Nat.le_of_ble_eq_true rfl) rfl ?_
  intro p e s m args below meth c C T0 hnm
  refine a_aload_n C dX10_quote_0 rfl ?_
  refine a_iload_n C dX10_quote_1 rfl ?_
  refine a_iload_n C dX10_quote_2 rfl ?_
  refine a_iload_n C dX10_quote_3 rfl ?_
  refine a_iload C dX10_quote_4 rfl ?_
  refine a_iload C dX10_quote_6 rfl ?_
  refine a_callV (o := 40) (As := [ii_v x, ii_v y, ii_v u, ii_v z, ii_v m0]) C (m_isRefused hl f w hv n hn hn30 hrid nb hnb hnb4 hT hnow hdt hwt x y u z m0 (by omega) (by omega) (by omega) (by omega) (by omega) h h2 hfd) co_X10_isRefused in_X10 ml_X10_222 im_X10_isRefused se_X10_isRefused rfl rfl ar_X10_isRefused ⟨by decide, by decide, by decide, by decide⟩ rfl (Nat.le_of_ble_eq_true rfl) dX10_quote_8 (a_dF ?_) a_nF
  intro vg1 g1 hvg1
  obtain ⟨rfl, h0g1, hatg1, hvg12, hmg1⟩ := hvg1
  have hatc := hatg1
  obtain ⟨hq1, hq2, hq3, -⟩ := hatg1
  refine a_if_eq (tgt := 18) C dX10_quote_11 rfl (by unfold ii_B; omega) (fun h11 => ?_) (fun h11 => ?_)
  · skip
    refine a_aload_n C dX10_quote_18 rfl ?_
    refine a_get (ci := 11) (i := 41) (v := ii_v (g1 40 41)) C iw_X10 rfl (by decide) rfl fl_X10_193 rfl rfl dX10_quote_19 ?_
    refine a_top (w := ii_v ((pa_b (vw_f v 30 x y u z m0 (f 40 32 + f 40 34) (pd_d x y u z * (100 + f 40 33) / 100)) (mB f n) TS 30 (f 40 32) nb (-1, 0, 0, 1000000, 1)).2.2.2.1)) (congrArg (fun q => ii_v q) (hq2 hfd).2.2) ?_
    refine a_iret C ?_ (by decide) (by decide) dX10_quote_22
    rw [hPost]
    exact ab_F_of ⟨rfl, h0g1, hatc, hvg12, hmg1⟩
  · skip
    omega
set_option maxRecDepth 20000 in
set_option maxHeartbeats 2000000 in
theorem n3_quote {l : Launch} {E : ab_E} {base : Nat} (hl : l.stackTraces = false) {ad : Nat → Nat} (f : Nat → Nat → Int) (w : Nat × Nat × Int64 × UInt64) {v : Nat → Nat → Int} (hv : pj_C f v) (n : Nat) (hn : f 40 30 = (n : Int)) (hn30 : n ≤ 30) (hrid : ∀ r, r < n → (0 ≤ f 57 r ∧ f 57 r ≤ 6) ∧ st_ok (f 63 r) ∧ -1 ≤ f 60 r ∧ f 60 r ≤ 10) (nb : Nat) (hnb : f 40 29 = (nb : Int)) (hnb4 : nb ≤ 4) {TS : Nat → List Nat} (hT : ∀ b, b < nb → pk_B f b ∧ mt_I f b (TS b) ∧ (TS b).length ≤ 6 ∧ ∀ j, j < (TS b).length → (TS b).getD j 0 / 2 ≤ 30) (hnow : 0 ≤ f 40 32 ∧ f 40 32 ≤ 90000) (hdt : 0 ≤ f 40 33 ∧ f 40 33 ≤ 200) (hwt : 0 ≤ f 40 34 ∧ f 40 34 ≤ 60) (x y u z m0 : Int) (zx : -2147483648 ≤ x ∧ x < 2147483648) (zy : -2147483648 ≤ y ∧ y < 2147483648) (zu : -2147483648 ≤ u ∧ u < 2147483648) (zz : -2147483648 ≤ z ∧ z < 2147483648) (zm0 : -2147483648 ≤ m0 ∧ m0 < 2147483648) (h : (((0 ≤ x ∧ x ≤ 20) ∧ (0 ≤ y ∧ y ≤ 20)) ∧ ((0 ≤ u ∧ u ≤ 20) ∧ (0 ≤ z ∧ z ≤ 20)) ∧ 1 ≤ m0 ∧ m0 ≤ 6)) (h2 : ¬ (x = u ∧ y = z)) (hfd : (pa_b (vw_f v 30 x y u z m0 (f 40 32 + f 40 34) (pd_d x y u z * (100 + f 40 33) / 100)) (mB f n) TS 30 (f 40 32) nb (-1, 0, 0, 1000000, 1)).1 < 0) : ab_M l E base yX10_quote cX10_quote 6 (some .int) 10 0 0 [.ref (ad 40), ii_v x, ii_v y, ii_v u, ii_v z, ii_v m0] ab_x4 ad (f, w) (ab_F ad w (fun ov g => ov = some (ii_v (0)) ∧ g 40 0 = 3 ∧ pm_at g (pa_b (vw_f v 30 x y u z m0 (f 40 32 + f 40 34) (pd_d x y u z * (100 + f 40 33) / 100)) (mB f n) TS 30 (f 40 32) nb (-1, 0, 0, 1000000, 1)) ∧ pj_C g (vw_f v 30 x y u z m0 (f 40 32 + f 40 34) (pd_d x y u z * (100 + f 40 33) / 100)) ∧ mq_F f g)) := by
  obtain ⟨Post, hPost⟩ : ∃ P : ab_P, P = (ab_F ad w (fun ov g => ov = some (ii_v (0)) ∧ g 40 0 = 3 ∧ pm_at g (pa_b (vw_f v 30 x y u z m0 (f 40 32 + f 40 34) (pd_d x y u z * (100 + f 40 33) / 100)) (mB f n) TS 30 (f 40 32) nb (-1, 0, 0, 1000000, 1)) ∧ pj_C g (vw_f v 30 x y u z m0 (f 40 32 + f 40 34) (pd_d x y u z * (100 + f 40 33) / 100)) ∧ mq_F f g)) := ⟨_, rfl⟩
  rw [← hPost]
  refine ab_of RX10 [(0, .ref (ad 40)), (1, ii_v x), (2, ii_v y), (3, ii_v u), (4, ii_v z), (5, ii_v m0)] hl (by decide) rfl (Nat.le_of_ble_eq_true rfl) rfl ?_
  intro p e s m args below meth c C T0 hnm
  refine a_aload_n C dX10_quote_0 rfl ?_
  refine a_iload_n C dX10_quote_1 rfl ?_
  refine a_iload_n C dX10_quote_2 rfl ?_
  refine a_iload_n C dX10_quote_3 rfl ?_
  refine a_iload C dX10_quote_4 rfl ?_
  refine a_iload C dX10_quote_6 rfl ?_
  refine a_callV (o := 40) (As := [ii_v x, ii_v y, ii_v u, ii_v z, ii_v m0]) C (n3_isRefused hl f w hv n hn hn30 hrid nb hnb hnb4 hT hnow hdt hwt x y u z m0 (by omega) (by omega) (by omega) (by omega) (by omega) h h2 hfd) co_X10_isRefused in_X10 ml_X10_222 im_X10_isRefused se_X10_isRefused rfl rfl ar_X10_isRefused ⟨by decide, by decide, by decide, by decide⟩ rfl (Nat.le_of_ble_eq_true rfl) dX10_quote_8 (a_dF ?_) a_nF
  intro vg1 g1 hvg1
  obtain ⟨rfl, h0g1, hatg1, hvg12, hmg1⟩ := hvg1
  have hatc := hatg1
  obtain ⟨hq1, hq2, hq3, -⟩ := hatg1
  refine a_if_eq (tgt := 18) C dX10_quote_11 rfl (by unfold ii_B; omega) (fun h11 => ?_) (fun h11 => ?_)
  · skip
    omega
  · skip
    refine a_iconst C dX10_quote_14 ?_
    refine a_goto (tgt := 22) C dX10_quote_15 rfl ?_
    refine a_iret C ?_ (by decide) (by decide) dX10_quote_22
    rw [hPost]
    exact ab_F_of ⟨rfl, h0g1, hatc, hvg12, hmg1⟩
set_option maxRecDepth 20000 in
set_option maxHeartbeats 2000000 in
theorem n_quote {l : Launch} {E : ab_E} {base : Nat} (hl : l.stackTraces = false) {ad : Nat → Nat} (f : Nat → Nat → Int) (w : Nat × Nat × Int64 × UInt64) (x y u z m0 : Int) (zx : -2147483648 ≤ x ∧ x < 2147483648) (zy : -2147483648 ≤ y ∧ y < 2147483648) (zu : -2147483648 ≤ u ∧ u < 2147483648) (zz : -2147483648 ≤ z ∧ z < 2147483648) (zm0 : -2147483648 ≤ m0 ∧ m0 < 2147483648) (h : 0 < (wc_f x y u z m0)) : ab_M l E base yX10_quote cX10_quote 6 (some .int) 5 0 0 [.ref (ad 40), ii_v x, ii_v y, ii_v u, ii_v z, ii_v m0] ab_x4 ad (f, w) (ab_R (ii_v 0) ab_x4 ad (ii_up f 40 0 (wc_f x y u z m0), w)) := by
  obtain ⟨Post, hPost⟩ : ∃ P : ab_P, P = (ab_R (ii_v 0) ab_x4 ad (ii_up f 40 0 (wc_f x y u z m0), w)) := ⟨_, rfl⟩
  rw [← hPost]
  refine ab_of RX10 [(0, .ref (ad 40)), (1, ii_v x), (2, ii_v y), (3, ii_v u), (4, ii_v z), (5, ii_v m0)] hl (by decide) rfl (Nat.le_of_ble_eq_true rfl) rfl ?_
  intro p e s m args below meth c C T0 hnm
  refine a_aload_n C dX10_quote_0 rfl ?_
  refine a_iload_n C dX10_quote_1 rfl ?_
  refine a_iload_n C dX10_quote_2 rfl ?_
  refine a_iload_n C dX10_quote_3 rfl ?_
  refine a_iload C dX10_quote_4 rfl ?_
  refine a_iload C dX10_quote_6 rfl ?_
  refine a_callV (o := 40) (As := [ii_v x, ii_v y, ii_v u, ii_v z, ii_v m0]) C (n_isRefused hl f w x y u z m0 (by omega) (by omega) (by omega) (by omega) (by omega) h) co_X10_isRefused in_X10 ml_X10_222 im_X10_isRefused se_X10_isRefused rfl rfl ar_X10_isRefused ⟨by decide, by decide, by decide, by decide⟩ rfl (Nat.le_of_ble_eq_true rfl) dX10_quote_8 (a_dR ?_) a_nR
  obtain ⟨g1, eg1⟩ : ∃ F : Nat → Nat → Int, F = ii_up f 40 0 (wc_f x y u z m0) := ⟨_, rfl⟩
  rw [← eg1]
  refine a_if_eq (tgt := 18) C dX10_quote_11 rfl (by unfold ii_B; omega) (fun h11 => ?_) (fun h11 => ?_)
  · skip
    omega
  · skip
    refine a_iconst C dX10_quote_14 ?_
    refine a_goto (tgt := 22) C dX10_quote_15 rfl ?_
    refine a_iret C ?_ (by decide) (by decide) dX10_quote_22
    rw [hPost]
    rw [eg1]
    exact ⟨rfl, rfl, rfl, rfl⟩
set_option maxRecDepth 20000 in
set_option maxHeartbeats 2000000 in
theorem m_quotedBus {l : Launch} {E : ab_E} {base : Nat} (hl : l.stackTraces = false) {ad : Nat → Nat} (f : Nat → Nat → Int) (w : Nat × Nat × Int64 × UInt64) {v : Nat → Nat → Int} (hv : pj_C f v) (n : Nat) (hn : f 40 30 = (n : Int)) (hn30 : n ≤ 30) (hrid : ∀ r, r < n → (0 ≤ f 57 r ∧ f 57 r ≤ 6) ∧ st_ok (f 63 r) ∧ -1 ≤ f 60 r ∧ f 60 r ≤ 10) (nb : Nat) (hnb : f 40 29 = (nb : Int)) (hnb4 : nb ≤ 4) {TS : Nat → List Nat} (hT : ∀ b, b < nb → pk_B f b ∧ mt_I f b (TS b) ∧ (TS b).length ≤ 6 ∧ ∀ j, j < (TS b).length → (TS b).getD j 0 / 2 ≤ 30) (hnow : 0 ≤ f 40 32 ∧ f 40 32 ≤ 90000) (hdt : 0 ≤ f 40 33 ∧ f 40 33 ≤ 200) (hwt : 0 ≤ f 40 34 ∧ f 40 34 ≤ 60) (x y u z m0 : Int) (zx : -2147483648 ≤ x ∧ x < 2147483648) (zy : -2147483648 ≤ y ∧ y < 2147483648) (zu : -2147483648 ≤ u ∧ u < 2147483648) (zz : -2147483648 ≤ z ∧ z < 2147483648) (zm0 : -2147483648 ≤ m0 ∧ m0 < 2147483648) (h : (((0 ≤ x ∧ x ≤ 20) ∧ (0 ≤ y ∧ y ≤ 20)) ∧ ((0 ≤ u ∧ u ≤ 20) ∧ (0 ≤ z ∧ z ≤ 20)) ∧ 1 ≤ m0 ∧ m0 ≤ 6)) (h2 : ¬ (x = u ∧ y = z)) (hfd : 0 ≤ (pa_b (vw_f v 30 x y u z m0 (f 40 32 + f 40 34) (pd_d x y u z * (100 + f 40 33) / 100)) (mB f n) TS 30 (f 40 32) nb (-1, 0, 0, 1000000, 1)).1) : ab_M l E base yX10_quotedBus cX10_quotedBus 6 (some .int) 10 0 0 [.ref (ad 40), ii_v x, ii_v y, ii_v u, ii_v z, ii_v m0] ab_x4 ad (f, w) (ab_F ad w (fun ov g => ov = some (ii_v ((pa_b (vw_f v 30 x y u z m0 (f 40 32 + f 40 34) (pd_d x y u z * (100 + f 40 33) / 100)) (mB f n) TS 30 (f 40 32) nb (-1, 0, 0, 1000000, 1)).1)) ∧ g 40 0 = 0 ∧ pm_at g (pa_b (vw_f v 30 x y u z m0 (f 40 32 + f 40 34) (pd_d x y u z * (100 + f 40 33) / 100)) (mB f n) TS 30 (f 40 32) nb (-1, 0, 0, 1000000, 1)) ∧ pj_C g (vw_f v 30 x y u z m0 (f 40 32 + f 40 34) (pd_d x y u z * (100 + f 40 33) / 100)) ∧ mq_F f g)) := by
  obtain ⟨Post, hPost⟩ : ∃ P : ab_P, P = (ab_F ad w (fun ov g => ov = some (ii_v ((pa_b (vw_f v 30 x y u z m0 (f 40 32 + f 40 34) (pd_d x y u z * (100 + f 40 33) / 100)) (mB f n) TS 30 (f 40 32) nb (-1, 0, 0, 1000000, 1)).1)) ∧ g 40 0 = 0 ∧ pm_at g (pa_b (vw_f v 30 x y u z m0 (f 40 32 + f 40 34) (pd_d x y u z * (100 + f 40 33) / 100)) (mB f n) TS 30 (f 40 32) nb (-1, 0, 0, 1000000, 1)) ∧ pj_C g (vw_f v 30 x y u z m0 (f 40 32 + f 40 34) (pd_d x y u z * (100 + f 40 33) / 100)) ∧ mq_F f g)) := ⟨_, rfl⟩
  rw [← hPost]
  refine ab_of RX10 [(0, .ref (ad 40)), (1, ii_v x), (2, ii_v y), (3, ii_v u), (4, ii_v z), (5, ii_v m0)] hl (by decide) rfl (Nat.le_of_ble_eq_true rfl) rfl ?_
  intro p e s m args below meth c C T0 hnm
  refine a_aload_n C dX10_quotedBus_0 rfl ?_
  refine a_iload_n C dX10_quotedBus_1 rfl ?_
  refine a_iload_n C dX10_quotedBus_2 rfl ?_
  refine a_iload_n C dX10_quotedBus_3 rfl ?_
  refine a_iload C dX10_quotedBus_4 rfl ?_
  refine a_iload C dX10_quotedBus_6 rfl ?_
  refine a_callV (o := 40) (As := [ii_v x, ii_v y, ii_v u, ii_v z, ii_v m0]) C (m_isRefused hl f w hv n hn hn30 hrid nb hnb hnb4 hT hnow hdt hwt x y u z m0 (by omega) (by omega) (by omega) (by omega) (by omega) h h2 hfd) co_X10_isRefused in_X10 ml_X10_222 im_X10_isRefused se_X10_isRefused rfl rfl ar_X10_isRefused ⟨by decide, by decide, by decide, by decide⟩ rfl (Nat.le_of_ble_eq_true rfl) dX10_quotedBus_8 (a_dF ?_) a_nF
  intro vg1 g1 hvg1
  obtain ⟨rfl, h0g1, hatg1, hvg12, hmg1⟩ := hvg1
  have hatc := hatg1
  obtain ⟨hq1, hq2, hq3, -⟩ := hatg1
  refine a_if_eq (tgt := 18) C dX10_quotedBus_11 rfl (by unfold ii_B; omega) (fun h11 => ?_) (fun h11 => ?_)
  · skip
    refine a_aload_n C dX10_quotedBus_18 rfl ?_
    refine a_get (ci := 11) (i := 38) (v := ii_v (g1 40 38)) C iw_X10 rfl (by decide) rfl fl_X10_173 rfl rfl dX10_quotedBus_19 ?_
    refine a_top (w := ii_v ((pa_b (vw_f v 30 x y u z m0 (f 40 32 + f 40 34) (pd_d x y u z * (100 + f 40 33) / 100)) (mB f n) TS 30 (f 40 32) nb (-1, 0, 0, 1000000, 1)).1)) (congrArg (fun q => ii_v q) hq1) ?_
    refine a_iret C ?_ (by decide) (by decide) dX10_quotedBus_22
    rw [hPost]
    exact ab_F_of ⟨rfl, h0g1, hatc, hvg12, hmg1⟩
  · skip
    omega
set_option maxRecDepth 20000 in
set_option maxHeartbeats 2000000 in
theorem n3_quotedBus {l : Launch} {E : ab_E} {base : Nat} (hl : l.stackTraces = false) {ad : Nat → Nat} (f : Nat → Nat → Int) (w : Nat × Nat × Int64 × UInt64) {v : Nat → Nat → Int} (hv : pj_C f v) (n : Nat) (hn : f 40 30 = (n : Int)) (hn30 : n ≤ 30) (hrid : ∀ r, r < n → (0 ≤ f 57 r ∧ f 57 r ≤ 6) ∧ st_ok (f 63 r) ∧ -1 ≤ f 60 r ∧ f 60 r ≤ 10) (nb : Nat) (hnb : f 40 29 = (nb : Int)) (hnb4 : nb ≤ 4) {TS : Nat → List Nat} (hT : ∀ b, b < nb → pk_B f b ∧ mt_I f b (TS b) ∧ (TS b).length ≤ 6 ∧ ∀ j, j < (TS b).length → (TS b).getD j 0 / 2 ≤ 30) (hnow : 0 ≤ f 40 32 ∧ f 40 32 ≤ 90000) (hdt : 0 ≤ f 40 33 ∧ f 40 33 ≤ 200) (hwt : 0 ≤ f 40 34 ∧ f 40 34 ≤ 60) (x y u z m0 : Int) (zx : -2147483648 ≤ x ∧ x < 2147483648) (zy : -2147483648 ≤ y ∧ y < 2147483648) (zu : -2147483648 ≤ u ∧ u < 2147483648) (zz : -2147483648 ≤ z ∧ z < 2147483648) (zm0 : -2147483648 ≤ m0 ∧ m0 < 2147483648) (h : (((0 ≤ x ∧ x ≤ 20) ∧ (0 ≤ y ∧ y ≤ 20)) ∧ ((0 ≤ u ∧ u ≤ 20) ∧ (0 ≤ z ∧ z ≤ 20)) ∧ 1 ≤ m0 ∧ m0 ≤ 6)) (h2 : ¬ (x = u ∧ y = z)) (hfd : (pa_b (vw_f v 30 x y u z m0 (f 40 32 + f 40 34) (pd_d x y u z * (100 + f 40 33) / 100)) (mB f n) TS 30 (f 40 32) nb (-1, 0, 0, 1000000, 1)).1 < 0) : ab_M l E base yX10_quotedBus cX10_quotedBus 6 (some .int) 10 0 0 [.ref (ad 40), ii_v x, ii_v y, ii_v u, ii_v z, ii_v m0] ab_x4 ad (f, w) (ab_F ad w (fun ov g => ov = some (ii_v (0)) ∧ g 40 0 = 3 ∧ pm_at g (pa_b (vw_f v 30 x y u z m0 (f 40 32 + f 40 34) (pd_d x y u z * (100 + f 40 33) / 100)) (mB f n) TS 30 (f 40 32) nb (-1, 0, 0, 1000000, 1)) ∧ pj_C g (vw_f v 30 x y u z m0 (f 40 32 + f 40 34) (pd_d x y u z * (100 + f 40 33) / 100)) ∧ mq_F f g)) := by
  obtain ⟨Post, hPost⟩ : ∃ P : ab_P, P = (ab_F ad w (fun ov g => ov = some (ii_v (0)) ∧ g 40 0 = 3 ∧ pm_at g (pa_b (vw_f v 30 x y u z m0 (f 40 32 + f 40 34) (pd_d x y u z * (100 + f 40 33) / 100)) (mB f n) TS 30 (f 40 32) nb (-1, 0, 0, 1000000, 1)) ∧ pj_C g (vw_f v 30 x y u z m0 (f 40 32 + f 40 34) (pd_d x y u z * (100 + f 40 33) / 100)) ∧ mq_F f g)) := ⟨_, rfl⟩
  rw [← hPost]
  refine ab_of RX10 [(0, .ref (ad 40)), (1, ii_v x), (2, ii_v y), (3, ii_v u), (4, ii_v z), (5, ii_v m0)] hl (by decide) rfl (Nat.le_of_ble_eq_true rfl) rfl ?_
  intro p e s m args below meth c C T0 hnm
  refine a_aload_n C dX10_quotedBus_0 rfl ?_
  refine a_iload_n C dX10_quotedBus_1 rfl ?_
  refine a_iload_n C dX10_quotedBus_2 rfl ?_
  refine a_iload_n C dX10_quotedBus_3 rfl ?_
  refine a_iload C dX10_quotedBus_4 rfl ?_
  refine a_iload C dX10_quotedBus_6 rfl ?_
  refine a_callV (o := 40) (As := [ii_v x, ii_v y, ii_v u, ii_v z, ii_v m0]) C (n3_isRefused hl f w hv n hn hn30 hrid nb hnb hnb4 hT hnow hdt hwt x y u z m0 (by omega) (by omega) (by omega) (by omega) (by omega) h h2 hfd) co_X10_isRefused in_X10 ml_X10_222 im_X10_isRefused se_X10_isRefused rfl rfl ar_X10_isRefused ⟨by decide, by decide, by decide, by decide⟩ rfl (Nat.le_of_ble_eq_true rfl) dX10_quotedBus_8 (a_dF ?_) a_nF
  intro vg1 g1 hvg1
  obtain ⟨rfl, h0g1, hatg1, hvg12, hmg1⟩ := hvg1
  have hatc := hatg1
  obtain ⟨hq1, hq2, hq3, -⟩ := hatg1
  refine a_if_eq (tgt := 18) C dX10_quotedBus_11 rfl (by unfold ii_B; omega) (fun h11 => ?_) (fun h11 => ?_)
  · skip
    omega
  · skip
    refine a_iconst C dX10_quotedBus_14 ?_
    refine a_goto (tgt := 22) C dX10_quotedBus_15 rfl ?_
    refine a_iret C ?_ (by decide) (by decide) dX10_quotedBus_22
    rw [hPost]
    exact ab_F_of ⟨rfl, h0g1, hatc, hvg12, hmg1⟩
set_option maxRecDepth 20000 in
set_option maxHeartbeats 2000000 in
theorem n_quotedBus {l : Launch} {E : ab_E} {base : Nat} (hl : l.stackTraces = false) {ad : Nat → Nat} (f : Nat → Nat → Int) (w : Nat × Nat × Int64 × UInt64) (x y u z m0 : Int) (zx : -2147483648 ≤ x ∧ x < 2147483648) (zy : -2147483648 ≤ y ∧ y < 2147483648) (zu : -2147483648 ≤ u ∧ u < 2147483648) (zz : -2147483648 ≤ z ∧ z < 2147483648) (zm0 : -2147483648 ≤ m0 ∧ m0 < 2147483648) (h : 0 < (wc_f x y u z m0)) : ab_M l E base yX10_quotedBus cX10_quotedBus 6 (some .int) 5 0 0 [.ref (ad 40), ii_v x, ii_v y, ii_v u, ii_v z, ii_v m0] ab_x4 ad (f, w) (ab_R (ii_v 0) ab_x4 ad (ii_up f 40 0 (wc_f x y u z m0), w)) := by
  obtain ⟨Post, hPost⟩ : ∃ P : ab_P, P = (ab_R (ii_v 0) ab_x4 ad (ii_up f 40 0 (wc_f x y u z m0), w)) := ⟨_, rfl⟩
  rw [← hPost]
  refine ab_of RX10 [(0, .ref (ad 40)), (1, ii_v x), (2, ii_v y), (3, ii_v u), (4, ii_v z), (5, ii_v m0)] hl (by decide) rfl (Nat.le_of_ble_eq_true rfl) rfl ?_
  intro p e s m args below meth c C T0 hnm
  refine a_aload_n C dX10_quotedBus_0 rfl ?_
  refine a_iload_n C dX10_quotedBus_1 rfl ?_
  refine a_iload_n C dX10_quotedBus_2 rfl ?_
  refine a_iload_n C dX10_quotedBus_3 rfl ?_
  refine a_iload C dX10_quotedBus_4 rfl ?_
  refine a_iload C dX10_quotedBus_6 rfl ?_
  refine a_callV (o := 40) (As := [ii_v x, ii_v y, ii_v u, ii_v z, ii_v m0]) C (n_isRefused hl f w x y u z m0 (by omega) (by omega) (by omega) (by omega) (by omega) h) co_X10_isRefused in_X10 ml_X10_222 im_X10_isRefused se_X10_isRefused rfl rfl ar_X10_isRefused ⟨by decide, by decide, by decide, by decide⟩ rfl (Nat.le_of_ble_eq_true rfl) dX10_quotedBus_8 (a_dR ?_) a_nR
  obtain ⟨g1, eg1⟩ : ∃ F : Nat → Nat → Int, F = ii_up f 40 0 (wc_f x y u z m0) := ⟨_, rfl⟩
  rw [← eg1]
  refine a_if_eq (tgt := 18) C dX10_quotedBus_11 rfl (by unfold ii_B; omega) (fun h11 => ?_) (fun h11 => ?_)
  · skip
    omega
  · skip
    refine a_iconst C dX10_quotedBus_14 ?_
    refine a_goto (tgt := 22) C dX10_quotedBus_15 rfl ?_
    refine a_iret C ?_ (by decide) (by decide) dX10_quotedBus_22
    rw [hPost]
    rw [eg1]
    exact ⟨rfl, rfl, rfl, rfl⟩
set_option maxRecDepth 20000 in
set_option maxHeartbeats 2000000 in
theorem m_quoteByTrying {l : Launch} {E : ab_E} {base : Nat} (hl : l.stackTraces = false) {ad : Nat → Nat} (f : Nat → Nat → Int) (w : Nat × Nat × Int64 × UInt64) {v : Nat → Nat → Int} (hv : pj_C f v) (n : Nat) (hn : f 40 30 = (n : Int)) (hn30 : n ≤ 30) (hrid : ∀ r, r < n → (0 ≤ f 57 r ∧ f 57 r ≤ 6) ∧ st_ok (f 63 r) ∧ -1 ≤ f 60 r ∧ f 60 r ≤ 10) (nb : Nat) (hnb : f 40 29 = (nb : Int)) (hnb4 : nb ≤ 4) {TS : Nat → List Nat} (hT : ∀ b, b < nb → pk_B f b ∧ mt_I f b (TS b) ∧ (TS b).length ≤ 6 ∧ ∀ j, j < (TS b).length → (TS b).getD j 0 / 2 ≤ 30) (hnow : 0 ≤ f 40 32 ∧ f 40 32 ≤ 90000) (hdt : 0 ≤ f 40 33 ∧ f 40 33 ≤ 200) (hwt : 0 ≤ f 40 34 ∧ f 40 34 ≤ 60) (x y u z m0 : Int) (zx : -2147483648 ≤ x ∧ x < 2147483648) (zy : -2147483648 ≤ y ∧ y < 2147483648) (zu : -2147483648 ≤ u ∧ u < 2147483648) (zz : -2147483648 ≤ z ∧ z < 2147483648) (zm0 : -2147483648 ≤ m0 ∧ m0 < 2147483648) (h : (((0 ≤ x ∧ x ≤ 20) ∧ (0 ≤ y ∧ y ≤ 20)) ∧ ((0 ≤ u ∧ u ≤ 20) ∧ (0 ≤ z ∧ z ≤ 20)) ∧ 1 ≤ m0 ∧ m0 ≤ 6)) (h2 : ¬ (x = u ∧ y = z)) (hfd : 0 ≤ (pa_b (vw_f v 30 x y u z m0 (f 40 32 + f 40 34) (pd_d x y u z * (100 + f 40 33) / 100)) (mB f n) TS 30 (f 40 32) nb (-1, 0, 0, 1000000, 1)).1) : ab_M l E base yX10_quoteByTrying cX10_quoteByTrying 6 (some .int) 11 0 0 [.ref (ad 40), ii_v x, ii_v y, ii_v u, ii_v z, ii_v m0] ab_x4 ad (f, w) (ab_F ad w (fun ov g => ov = some (ii_v ((pa_b (vw_f v 30 x y u z m0 (f 40 32 + f 40 34) (pd_d x y u z * (100 + f 40 33) / 100)) (mB f n) TS 30 (f 40 32) nb (-1, 0, 0, 1000000, 1)).2.2.2.1)) ∧ g 40 0 = 0 ∧ pm_at g (pa_b (vw_f v 30 x y u z m0 (f 40 32 + f 40 34) (pd_d x y u z * (100 + f 40 33) / 100)) (mB f n) TS 30 (f 40 32) nb (-1, 0, 0, 1000000, 1)) ∧ pj_C g (vw_f v 30 x y u z m0 (f 40 32 + f 40 34) (pd_d x y u z * (100 + f 40 33) / 100)) ∧ mq_F f g)) := by
  obtain ⟨Post, hPost⟩ : ∃ P : ab_P, P = (ab_F ad w (fun ov g => ov = some (ii_v ((pa_b (vw_f v 30 x y u z m0 (f 40 32 + f 40 34) (pd_d x y u z * (100 + f 40 33) / 100)) (mB f n) TS 30 (f 40 32) nb (-1, 0, 0, 1000000, 1)).2.2.2.1)) ∧ g 40 0 = 0 ∧ pm_at g (pa_b (vw_f v 30 x y u z m0 (f 40 32 + f 40 34) (pd_d x y u z * (100 + f 40 33) / 100)) (mB f n) TS 30 (f 40 32) nb (-1, 0, 0, 1000000, 1)) ∧ pj_C g (vw_f v 30 x y u z m0 (f 40 32 + f 40 34) (pd_d x y u z * (100 + f 40 33) / 100)) ∧ mq_F f g)) := ⟨_, rfl⟩
  rw [← hPost]
  refine ab_of RX10 [(0, .ref (ad 40)), (1, ii_v x), (2, ii_v y), (3, ii_v u), (4, ii_v z), (5, ii_v m0)] hl (by decide) rfl (Nat.le_of_ble_eq_true rfl) rfl ?_
  intro p e s m args below meth c C T0 hnm
  refine a_aload_n C dX10_quoteByTrying_0 rfl ?_
  refine a_iload_n C dX10_quoteByTrying_1 rfl ?_
  refine a_iload_n C dX10_quoteByTrying_2 rfl ?_
  refine a_iload_n C dX10_quoteByTrying_3 rfl ?_
  refine a_iload C dX10_quoteByTrying_4 rfl ?_
  refine a_iload C dX10_quoteByTrying_6 rfl ?_
  refine a_callV (o := 40) (As := [ii_v x, ii_v y, ii_v u, ii_v z, ii_v m0]) C (m_quote hl f w hv n hn hn30 hrid nb hnb hnb4 hT hnow hdt hwt x y u z m0 (by omega) (by omega) (by omega) (by omega) (by omega) h h2 hfd) co_X10_quote in_X10 ml_X10_226 im_X10_quote se_X10_quote rfl rfl ar_X10_quote ⟨by decide, by decide, by decide, by decide⟩ rfl (Nat.le_of_ble_eq_true rfl) dX10_quoteByTrying_8 (a_dF ?_) a_nF
  intro vg1 g1 hvg1
  obtain ⟨rfl, hzg1⟩ := hvg1
  refine a_iret C ?_ (by decide) (by decide) dX10_quoteByTrying_11
  rw [hPost]
  exact ab_F_of ⟨rfl, hzg1⟩
set_option maxRecDepth 20000 in
set_option maxHeartbeats 2000000 in
theorem n3_quoteByTrying {l : Launch} {E : ab_E} {base : Nat} (hl : l.stackTraces = false) {ad : Nat → Nat} (f : Nat → Nat → Int) (w : Nat × Nat × Int64 × UInt64) {v : Nat → Nat → Int} (hv : pj_C f v) (n : Nat) (hn : f 40 30 = (n : Int)) (hn30 : n ≤ 30) (hrid : ∀ r, r < n → (0 ≤ f 57 r ∧ f 57 r ≤ 6) ∧ st_ok (f 63 r) ∧ -1 ≤ f 60 r ∧ f 60 r ≤ 10) (nb : Nat) (hnb : f 40 29 = (nb : Int)) (hnb4 : nb ≤ 4) {TS : Nat → List Nat} (hT : ∀ b, b < nb → pk_B f b ∧ mt_I f b (TS b) ∧ (TS b).length ≤ 6 ∧ ∀ j, j < (TS b).length → (TS b).getD j 0 / 2 ≤ 30) (hnow : 0 ≤ f 40 32 ∧ f 40 32 ≤ 90000) (hdt : 0 ≤ f 40 33 ∧ f 40 33 ≤ 200) (hwt : 0 ≤ f 40 34 ∧ f 40 34 ≤ 60) (x y u z m0 : Int) (zx : -2147483648 ≤ x ∧ x < 2147483648) (zy : -2147483648 ≤ y ∧ y < 2147483648) (zu : -2147483648 ≤ u ∧ u < 2147483648) (zz : -2147483648 ≤ z ∧ z < 2147483648) (zm0 : -2147483648 ≤ m0 ∧ m0 < 2147483648) (h : (((0 ≤ x ∧ x ≤ 20) ∧ (0 ≤ y ∧ y ≤ 20)) ∧ ((0 ≤ u ∧ u ≤ 20) ∧ (0 ≤ z ∧ z ≤ 20)) ∧ 1 ≤ m0 ∧ m0 ≤ 6)) (h2 : ¬ (x = u ∧ y = z)) (hfd : (pa_b (vw_f v 30 x y u z m0 (f 40 32 + f 40 34) (pd_d x y u z * (100 + f 40 33) / 100)) (mB f n) TS 30 (f 40 32) nb (-1, 0, 0, 1000000, 1)).1 < 0) : ab_M l E base yX10_quoteByTrying cX10_quoteByTrying 6 (some .int) 11 0 0 [.ref (ad 40), ii_v x, ii_v y, ii_v u, ii_v z, ii_v m0] ab_x4 ad (f, w) (ab_F ad w (fun ov g => ov = some (ii_v (0)) ∧ g 40 0 = 3 ∧ pm_at g (pa_b (vw_f v 30 x y u z m0 (f 40 32 + f 40 34) (pd_d x y u z * (100 + f 40 33) / 100)) (mB f n) TS 30 (f 40 32) nb (-1, 0, 0, 1000000, 1)) ∧ pj_C g (vw_f v 30 x y u z m0 (f 40 32 + f 40 34) (pd_d x y u z * (100 + f 40 33) / 100)) ∧ mq_F f g)) := by
  obtain ⟨Post, hPost⟩ : ∃ P : ab_P, P = (ab_F ad w (fun ov g => ov = some (ii_v (0)) ∧ g 40 0 = 3 ∧ pm_at g (pa_b (vw_f v 30 x y u z m0 (f 40 32 + f 40 34) (pd_d x y u z * (100 + f 40 33) / 100)) (mB f n) TS 30 (f 40 32) nb (-1, 0, 0, 1000000, 1)) ∧ pj_C g (vw_f v 30 x y u z m0 (f 40 32 + f 40 34) (pd_d x y u z * (100 + f 40 33) / 100)) ∧ mq_F f g)) := ⟨_, rfl⟩
  rw [← hPost]
  refine ab_of RX10 [(0, .ref (ad 40)), (1, ii_v x), (2, ii_v y), (3, ii_v u), (4, ii_v z), (5, ii_v m0)] hl (by decide) rfl (Nat.le_of_ble_eq_true rfl) rfl ?_
  intro p e s m args below meth c C T0 hnm
  refine a_aload_n C dX10_quoteByTrying_0 rfl ?_
  refine a_iload_n C dX10_quoteByTrying_1 rfl ?_
  refine a_iload_n C dX10_quoteByTrying_2 rfl ?_
  refine a_iload_n C dX10_quoteByTrying_3 rfl ?_
  refine a_iload C dX10_quoteByTrying_4 rfl ?_
  refine a_iload C dX10_quoteByTrying_6 rfl ?_
  refine a_callV (o := 40) (As := [ii_v x, ii_v y, ii_v u, ii_v z, ii_v m0]) C (n3_quote hl f w hv n hn hn30 hrid nb hnb hnb4 hT hnow hdt hwt x y u z m0 (by omega) (by omega) (by omega) (by omega) (by omega) h h2 hfd) co_X10_quote in_X10 ml_X10_226 im_X10_quote se_X10_quote rfl rfl ar_X10_quote ⟨by decide, by decide, by decide, by decide⟩ rfl (Nat.le_of_ble_eq_true rfl) dX10_quoteByTrying_8 (a_dF ?_) a_nF
  intro vg1 g1 hvg1
  obtain ⟨rfl, hzg1⟩ := hvg1
  refine a_iret C ?_ (by decide) (by decide) dX10_quoteByTrying_11
  rw [hPost]
  exact ab_F_of ⟨rfl, hzg1⟩
set_option maxRecDepth 20000 in
set_option maxHeartbeats 2000000 in
theorem n_quoteByTrying {l : Launch} {E : ab_E} {base : Nat} (hl : l.stackTraces = false) {ad : Nat → Nat} (f : Nat → Nat → Int) (w : Nat × Nat × Int64 × UInt64) (x y u z m0 : Int) (zx : -2147483648 ≤ x ∧ x < 2147483648) (zy : -2147483648 ≤ y ∧ y < 2147483648) (zu : -2147483648 ≤ u ∧ u < 2147483648) (zz : -2147483648 ≤ z ∧ z < 2147483648) (zm0 : -2147483648 ≤ m0 ∧ m0 < 2147483648) (h : 0 < (wc_f x y u z m0)) : ab_M l E base yX10_quoteByTrying cX10_quoteByTrying 6 (some .int) 6 0 0 [.ref (ad 40), ii_v x, ii_v y, ii_v u, ii_v z, ii_v m0] ab_x4 ad (f, w) (ab_R (ii_v 0) ab_x4 ad (ii_up f 40 0 (wc_f x y u z m0), w)) := by
  obtain ⟨Post, hPost⟩ : ∃ P : ab_P, P = (ab_R (ii_v 0) ab_x4 ad (ii_up f 40 0 (wc_f x y u z m0), w)) := ⟨_, rfl⟩
  rw [← hPost]
  refine ab_of RX10 [(0, .ref (ad 40)), (1, ii_v x), (2, ii_v y), (3, ii_v u), (4, ii_v z), (5, ii_v m0)] hl (by decide) rfl (Nat.le_of_ble_eq_true rfl) rfl ?_
  intro p e s m args below meth c C T0 hnm
  refine a_aload_n C dX10_quoteByTrying_0 rfl ?_
  refine a_iload_n C dX10_quoteByTrying_1 rfl ?_
  refine a_iload_n C dX10_quoteByTrying_2 rfl ?_
  refine a_iload_n C dX10_quoteByTrying_3 rfl ?_
  refine a_iload C dX10_quoteByTrying_4 rfl ?_
  refine a_iload C dX10_quoteByTrying_6 rfl ?_
  refine a_callV (o := 40) (As := [ii_v x, ii_v y, ii_v u, ii_v z, ii_v m0]) C (n_quote hl f w x y u z m0 (by omega) (by omega) (by omega) (by omega) (by omega) h) co_X10_quote in_X10 ml_X10_226 im_X10_quote se_X10_quote rfl rfl ar_X10_quote ⟨by decide, by decide, by decide, by decide⟩ rfl (Nat.le_of_ble_eq_true rfl) dX10_quoteByTrying_8 (a_dR ?_) a_nR
  obtain ⟨g1, eg1⟩ : ∃ F : Nat → Nat → Int, F = ii_up f 40 0 (wc_f x y u z m0) := ⟨_, rfl⟩
  rw [← eg1]
  refine a_iret C ?_ (by decide) (by decide) dX10_quoteByTrying_11
  rw [hPost]
  rw [eg1]
  exact ⟨rfl, rfl, rfl, rfl⟩
set_option maxRecDepth 20000 in
set_option maxHeartbeats 2000000 in
theorem n_request {l : Launch} {E : ab_E} {base : Nat} (hl : l.stackTraces = false) {ad : Nat → Nat} (f : Nat → Nat → Int) (w : Nat × Nat × Int64 × UInt64) (x y u z m0 : Int) (zx : -2147483648 ≤ x ∧ x < 2147483648) (zy : -2147483648 ≤ y ∧ y < 2147483648) (zu : -2147483648 ≤ u ∧ u < 2147483648) (zz : -2147483648 ≤ z ∧ z < 2147483648) (zm0 : -2147483648 ≤ m0 ∧ m0 < 2147483648) (h : 0 < (wc_f x y u z m0)) : ab_M l E base yX10_request cX10_request 7 (some .int) 4 0 0 [.ref (ad 40), ii_v x, ii_v y, ii_v u, ii_v z, ii_v m0] ab_x4 ad (f, w) (ab_R (ii_v 0) ab_x4 ad (ii_up f 40 0 (wc_f x y u z m0), w)) := by
  obtain ⟨Post, hPost⟩ : ∃ P : ab_P, P = (ab_R (ii_v 0) ab_x4 ad (ii_up f 40 0 (wc_f x y u z m0), w)) := ⟨_, rfl⟩
  rw [← hPost]
  refine ab_of RX10 [(0, .ref (ad 40)), (1, ii_v x), (2, ii_v y), (3, ii_v u), (4, ii_v z), (5, ii_v m0)] hl (by decide) rfl (Nat.le_of_ble_eq_true rfl) rfl ?_
  intro p e s m args below meth c C T0 hnm
  have hwb := wc_b x y u z m0
  refine a_aload_n C dX10_request_0 rfl ?_
  refine a_aload_n C dX10_request_1 rfl ?_
  refine a_iload_n C dX10_request_2 rfl ?_
  refine a_iload_n C dX10_request_3 rfl ?_
  refine a_iload_n C dX10_request_4 rfl ?_
  refine a_iload C dX10_request_5 rfl ?_
  refine a_iload C dX10_request_7 rfl ?_
  refine a_callV (o := 40) (As := [ii_v x, ii_v y, ii_v u, ii_v z, ii_v m0]) C (m_wrong hl f w x y u z m0 (by omega) (by omega) (by omega) (by omega) (by omega)) co_X10_wrong in_X10 ml_X10_205 im_X10_wrong se_X10_wrong rfl rfl ar_X10_wrong ⟨by decide, by decide, by decide, by decide⟩ rfl (Nat.le_of_ble_eq_true rfl) dX10_request_9 (a_dR ?_) a_nR
  refine a_put (ci := 11) (i := 0) C iw_X10 rfl (by decide) rfl tyX10 tyX10_ok nmX10 rfl rfl fl_X10_114 rfl rfl rfl rfl dX10_request_12 ?_
  obtain ⟨g1, eg1⟩ : ∃ F : Nat → Nat → Int, F = ii_up f 40 0 (wc_f x y u z m0) := ⟨_, rfl⟩
  rw [← eg1]
  refine a_aload_n C dX10_request_15 rfl ?_
  refine a_get (ci := 11) (i := 0) (v := ii_v (g1 40 0)) C iw_X10 rfl (by decide) rfl fl_X10_114 rfl rfl dX10_request_16 ?_
  refine a_top (w := ii_v (wc_f x y u z m0)) (congrArg (fun q => ii_v q) (show g1 40 0 = (wc_f x y u z m0) by rw [eg1, ii_up_s])) ?_
  refine a_if_le (tgt := 24) C dX10_request_19 rfl (by unfold ii_B; omega) (fun h19 => ?_) (fun h19 => ?_)
  · skip
    omega
  · skip
    refine a_iconst C dX10_request_22 ?_
    refine a_iret C ?_ (by decide) (by decide) dX10_request_23
    rw [hPost]
    subst eg1
    exact ⟨rfl, rfl, rfl, by first | rfl | rw [ii_up_up]⟩
set_option maxRecDepth 20000 in
set_option maxHeartbeats 2000000 in
theorem n3_request {l : Launch} {E : ab_E} {base : Nat} (hl : l.stackTraces = false) {ad : Nat → Nat} (f : Nat → Nat → Int) (w : Nat × Nat × Int64 × UInt64) (x y u z m0 : Int) (zx : -2147483648 ≤ x ∧ x < 2147483648) (zy : -2147483648 ≤ y ∧ y < 2147483648) (zu : -2147483648 ≤ u ∧ u < 2147483648) (zz : -2147483648 ≤ z ∧ z < 2147483648) (zm0 : -2147483648 ≤ m0 ∧ m0 < 2147483648) (h : (((0 ≤ x ∧ x ≤ 20) ∧ (0 ≤ y ∧ y ≤ 20)) ∧ ((0 ≤ u ∧ u ≤ 20) ∧ (0 ≤ z ∧ z ≤ 20)) ∧ 1 ≤ m0 ∧ m0 ≤ 6)) (h2 : ¬ (x = u ∧ y = z)) (hn : f 40 30 = 30) : ab_M l E base yX10_request cX10_request 7 (some .int) 4 0 0 [.ref (ad 40), ii_v x, ii_v y, ii_v u, ii_v z, ii_v m0] ab_x4 ad (f, w) (ab_R (ii_v 0) ab_x4 ad (ii_up f 40 0 3, w)) := by
  obtain ⟨Post, hPost⟩ : ∃ P : ab_P, P = (ab_R (ii_v 0) ab_x4 ad (ii_up f 40 0 3, w)) := ⟨_, rfl⟩
  rw [← hPost]
  refine ab_of RX10 [(0, .ref (ad 40)), (1, ii_v x), (2, ii_v y), (3, ii_v u), (4, ii_v z), (5, ii_v m0)] hl (by decide) rfl (Nat.le_of_ble_eq_true rfl) rfl ?_
  intro p e s m args below meth c C T0 hnm
  have hwc : (wc_f x y u z m0) = 0 := by unfold wc_f; rw [if_pos h, if_neg h2]
  refine a_aload_n C dX10_request_0 rfl ?_
  refine a_aload_n C dX10_request_1 rfl ?_
  refine a_iload_n C dX10_request_2 rfl ?_
  refine a_iload_n C dX10_request_3 rfl ?_
  refine a_iload_n C dX10_request_4 rfl ?_
  refine a_iload C dX10_request_5 rfl ?_
  refine a_iload C dX10_request_7 rfl ?_
  refine a_callV (o := 40) (As := [ii_v x, ii_v y, ii_v u, ii_v z, ii_v m0]) C (m_wrong hl f w x y u z m0 (by omega) (by omega) (by omega) (by omega) (by omega)) co_X10_wrong in_X10 ml_X10_205 im_X10_wrong se_X10_wrong rfl rfl ar_X10_wrong ⟨by decide, by decide, by decide, by decide⟩ rfl (Nat.le_of_ble_eq_true rfl) dX10_request_9 (a_dR ?_) a_nR
  refine a_put (ci := 11) (i := 0) C iw_X10 rfl (by decide) rfl tyX10 tyX10_ok nmX10 rfl rfl fl_X10_114 rfl rfl rfl rfl dX10_request_12 ?_
  obtain ⟨g1, eg1⟩ : ∃ F : Nat → Nat → Int, F = ii_up f 40 0 (wc_f x y u z m0) := ⟨_, rfl⟩
  rw [← eg1]
  refine a_aload_n C dX10_request_15 rfl ?_
  refine a_get (ci := 11) (i := 0) (v := ii_v (g1 40 0)) C iw_X10 rfl (by decide) rfl fl_X10_114 rfl rfl dX10_request_16 ?_
  refine a_top (w := ii_v (wc_f x y u z m0)) (congrArg (fun q => ii_v q) (show g1 40 0 = (wc_f x y u z m0) by rw [eg1, ii_up_s])) ?_
  refine a_if_le (tgt := 24) C dX10_request_19 rfl (by unfold ii_B; omega) (fun h19 => ?_) (fun h19 => ?_)
  · skip
    refine a_aload_n C dX10_request_24 rfl ?_
    refine a_get (ci := 11) (i := 30) (v := ii_v (g1 40 30)) C iw_X10 rfl (by decide) rfl fl_X10_124 rfl rfl dX10_request_25 ?_
    refine a_top (w := ii_v (f 40 30)) (congrArg (fun q => ii_v q) (show g1 40 30 = (f 40 30) by rw [eg1, ii_up_k _ _ (by first | decide | omega)])) ?_
    refine a_bipush C dX10_request_28 (by decide) ?_
    refine a_icmp_ne (tgt := 39) C dX10_request_30 rfl (by unfold ii_B; omega) (by unfold ii_B; omega) (fun h30 => ?_) (fun h30 => ?_)
    · skip
      omega
    · skip
      refine a_aload_n C dX10_request_33 rfl ?_
      refine a_iconst C dX10_request_34 ?_
      refine a_callV (o := 40) (As := [ii_v 3]) C (m_fails hl g1 w 3) co_X10_fails in_X10 ml_X10_127 im_X10_fails se_X10_fails rfl rfl ar_X10_fails ⟨by decide, by decide, by decide, by decide⟩ rfl (Nat.le_of_ble_eq_true rfl) dX10_request_35 (a_dR ?_) a_nR
      obtain ⟨g2, eg2⟩ : ∃ F : Nat → Nat → Int, F = ii_up g1 40 0 3 := ⟨_, rfl⟩
      rw [← eg2]
      refine a_iret C ?_ (by decide) (by decide) dX10_request_38
      rw [hPost]
      subst eg2 eg1
      exact ⟨rfl, rfl, rfl, by first | rfl | rw [ii_up_up]⟩
  · skip
    omega
set_option maxRecDepth 20000 in
set_option maxHeartbeats 2000000 in
theorem m_request_x {l : Launch} {E : ab_E} {base : Nat} (hl : l.stackTraces = false) {ad : Nat → Nat} (f : Nat → Nat → Int) (w : Nat × Nat × Int64 × UInt64) {v : Nat → Nat → Int} (hv : pj_C f v) (n : Nat) (hn : f 40 30 = (n : Int)) (hn30 : n ≤ 30) (hrid : ∀ r, r < n → (0 ≤ f 57 r ∧ f 57 r ≤ 6) ∧ st_ok (f 63 r) ∧ -1 ≤ f 60 r ∧ f 60 r ≤ 10) (nb : Nat) (hnb : f 40 29 = (nb : Int)) (hnb4 : nb ≤ 4) {TS : Nat → List Nat} (hT : ∀ b, b < nb → pk_B f b ∧ mt_I f b (TS b) ∧ (TS b).length ≤ 6 ∧ ∀ j, j < (TS b).length → (TS b).getD j 0 / 2 ≤ 30) (hnow : 0 ≤ f 40 32 ∧ f 40 32 ≤ 90000) (hdt : 0 ≤ f 40 33 ∧ f 40 33 ≤ 200) (hwt : 0 ≤ f 40 34 ∧ f 40 34 ≤ 60) (x y u z m0 : Int) (zx : -2147483648 ≤ x ∧ x < 2147483648) (zy : -2147483648 ≤ y ∧ y < 2147483648) (zu : -2147483648 ≤ u ∧ u < 2147483648) (zz : -2147483648 ≤ z ∧ z < 2147483648) (zm0 : -2147483648 ≤ m0 ∧ m0 < 2147483648) (h : (((0 ≤ x ∧ x ≤ 20) ∧ (0 ≤ y ∧ y ≤ 20)) ∧ ((0 ≤ u ∧ u ≤ 20) ∧ (0 ≤ z ∧ z ≤ 20)) ∧ 1 ≤ m0 ∧ m0 ≤ 6)) (h2 : ¬ (x = u ∧ y = z)) (hn29 : n < 30) (i0 j0 A W0 : Int) (hPB : (pa_b (vw_f v n x y u z m0 (f 40 32 + f 40 34) (pd_d x y u z * (100 + f 40 33) / 100)) (mB f n) TS n (f 40 32) nb (-1, 0, 0, 1000000, 1)) = (-1, i0, j0, A, W0)) (hW : 1 ≤ W0 ∧ W0 ≤ 4) : ab_M l E base yX10_request cX10_request 7 (some .int) 9 0 0 [.ref (ad 40), ii_v x, ii_v y, ii_v u, ii_v z, ii_v m0] ab_x4 ad (f, w) (ab_F ad w (fun ov g => ov = some (ii_v (n : Int)) ∧ g 40 0 = 0 ∧ me_E g (ii_up (ii_up (ii_up (wm_T f n x y u z m0) 63 n 120) 64 n (sg_f W0)) 40 30 ((n : Int) + 1)) ∧ g 51 = f 51 ∧ g 52 = f 52)) := by
  obtain ⟨Post, hPost⟩ : ∃ P : ab_P, P = (ab_F ad w (fun ov g => ov = some (ii_v (n : Int)) ∧ g 40 0 = 0 ∧ me_E g (ii_up (ii_up (ii_up (wm_T f n x y u z m0) 63 n 120) 64 n (sg_f W0)) 40 30 ((n : Int) + 1)) ∧ g 51 = f 51 ∧ g 52 = f 52)) := ⟨_, rfl⟩
  rw [← hPost]
  refine ab_of RX10 [(0, .ref (ad 40)), (1, ii_v x), (2, ii_v y), (3, ii_v u), (4, ii_v z), (5, ii_v m0)] hl (by decide) rfl (Nat.le_of_ble_eq_true rfl) rfl ?_
  intro p e s m args below meth c C T0 hnm
  have hwc : (wc_f x y u z m0) = 0 := by unfold wc_f; rw [if_pos h, if_neg h2]
  have hn30b : n ≤ 30 := by omega
  refine a_aload_n C dX10_request_0 rfl ?_
  refine a_aload_n C dX10_request_1 rfl ?_
  refine a_iload_n C dX10_request_2 rfl ?_
  refine a_iload_n C dX10_request_3 rfl ?_
  refine a_iload_n C dX10_request_4 rfl ?_
  refine a_iload C dX10_request_5 rfl ?_
  refine a_iload C dX10_request_7 rfl ?_
  refine a_callV (o := 40) (As := [ii_v x, ii_v y, ii_v u, ii_v z, ii_v m0]) C (m_wrong hl f w x y u z m0 (by omega) (by omega) (by omega) (by omega) (by omega)) co_X10_wrong in_X10 ml_X10_205 im_X10_wrong se_X10_wrong rfl rfl ar_X10_wrong ⟨by decide, by decide, by decide, by decide⟩ rfl (Nat.le_of_ble_eq_true rfl) dX10_request_9 (a_dR ?_) a_nR
  refine a_put (ci := 11) (i := 0) C iw_X10 rfl (by decide) rfl tyX10 tyX10_ok nmX10 rfl rfl fl_X10_114 rfl rfl rfl rfl dX10_request_12 ?_
  obtain ⟨g1, eg1⟩ : ∃ F : Nat → Nat → Int, F = ii_up f 40 0 (wc_f x y u z m0) := ⟨_, rfl⟩
  rw [← eg1]
  have hrg1 : ∀ o, o ≠ 40 → g1 o = f o := fun o h => by rw [eg1]; exact ii_up_row _ _ h
  have h4g1 : ∀ i, i ≠ 0 → g1 40 i = f 40 i := fun i h => by rw [eg1]; exact ii_up_k _ _ h
  refine a_aload_n C dX10_request_15 rfl ?_
  refine a_get (ci := 11) (i := 0) (v := ii_v (g1 40 0)) C iw_X10 rfl (by decide) rfl fl_X10_114 rfl rfl dX10_request_16 ?_
  refine a_top (w := ii_v (wc_f x y u z m0)) (congrArg (fun q => ii_v q) (show g1 40 0 = (wc_f x y u z m0) by rw [eg1, ii_up_s])) ?_
  refine a_if_le (tgt := 24) C dX10_request_19 rfl (by unfold ii_B; omega) (fun h19 => ?_) (fun h19 => ?_)
  · skip
    refine a_aload_n C dX10_request_24 rfl ?_
    refine a_get (ci := 11) (i := 30) (v := ii_v (g1 40 30)) C iw_X10 rfl (by decide) rfl fl_X10_124 rfl rfl dX10_request_25 ?_
    refine a_top (w := ii_v (f 40 30)) (congrArg (fun q => ii_v q) (show g1 40 30 = (f 40 30) by rw [eg1, ii_up_k _ _ (by first | decide | omega)])) ?_
    refine a_top (w := ii_v ((n : Nat) : Int)) (congrArg (fun q => ii_v q) hn) ?_
    refine a_bipush C dX10_request_28 (by decide) ?_
    refine a_icmp_ne (tgt := 39) C dX10_request_30 rfl (by unfold ii_B; omega) (by unfold ii_B; omega) (fun h30 => ?_) (fun h30 => ?_)
    · skip
      refine a_aload_n C dX10_request_39 rfl ?_
      refine a_get (ci := 11) (i := 30) (v := ii_v (g1 40 30)) C iw_X10 rfl (by decide) rfl fl_X10_124 rfl rfl dX10_request_40 ?_
      refine a_top (w := ii_v (f 40 30)) (congrArg (fun q => ii_v q) (show g1 40 30 = (f 40 30) by rw [eg1, ii_up_k _ _ (by first | decide | omega)])) ?_
      refine a_top (w := ii_v ((n : Nat) : Int)) (congrArg (fun q => ii_v q) hn) ?_
      refine a_istore (L' := [(0, .ref (ad 40)), (1, ii_v x), (2, ii_v y), (3, ii_v u), (4, ii_v z), (5, ii_v m0), (6, ii_v ((n : Nat) : Int))]) C dX10_request_43 (by decide) rfl ?_
      refine a_aload_n C dX10_request_45 rfl ?_
      refine a_iload C dX10_request_46 rfl ?_
      refine a_iload_n C dX10_request_48 rfl ?_
      refine a_iload_n C dX10_request_49 rfl ?_
      refine a_iload_n C dX10_request_50 rfl ?_
      refine a_iload C dX10_request_51 rfl ?_
      refine a_iload C dX10_request_53 rfl ?_
      refine a_callV (o := 40) (As := [ii_v ((n : Nat) : Int), ii_v x, ii_v y, ii_v u, ii_v z, ii_v m0]) C (m_writes hl g1 w n hn30b x y u z m0 h (by rw [h4g1 33 (by decide)]; exact hdt)) co_X10_writes in_X10 ml_X10_209 im_X10_writes se_X10_writes rfl rfl ar_X10_writes ⟨by decide, by decide, by decide, by decide⟩ rfl (Nat.le_of_ble_eq_true rfl) dX10_request_55 (a_dV ?_) a_nV
      obtain ⟨g2, eg2⟩ : ∃ F : Nat → Nat → Int, F = wm_T g1 n x y u z m0 := ⟨_, rfl⟩
      rw [← eg2]
      have hrg2 : ∀ o, o ≠ 40 → (o < 53 ∨ 59 < o) → g2 o = f o := fun o h1 h2 => by rw [eg2, wm_row h2]; exact hrg1 o h1
      have hig2 : ∀ o i, o ≠ 40 → i ≠ n → g2 o i = f o i := fun o i h1 h2 => by rw [eg2, wm_oth h2]; exact congrFun (hrg1 o h1) i
      have h4g2 : ∀ i, i ≠ 0 → g2 40 i = f 40 i := fun i h1 => by rw [eg2, wm_row (by decide)]; exact h4g1 i h1
      have h0g2 : g2 40 0 = 0 := by rw [eg2, wm_row (by decide), eg1, ii_up_s]; exact hwc
      have hvg2 : pj_C g2 (vw_f v n x y u z m0 (f 40 32 + f 40 34) (pd_d x y u z * (100 + f 40 33) / 100)) := by have hz := wm_pj (f := g1) (r := n) (pj_same hv (fun o2 h => hrg1 o2 (by omega))) (by rw [h4g1 32 (by decide)]; exact hnow) (by rw [h4g1 33 (by decide)]; exact hdt) (by rw [h4g1 34 (by decide)]; exact hwt) h; rw [h4g1 32 (by decide), h4g1 33 (by decide), h4g1 34 (by decide), ← eg2] at hz; exact hz
      have hridg : ∀ r, r < n → (0 ≤ g2 57 r ∧ g2 57 r ≤ 6) ∧ st_ok (g2 63 r) ∧ -1 ≤ g2 60 r ∧ g2 60 r ≤ 10 := fun r hr => by rw [hig2 57 r (by decide) (by omega), hig2 63 r (by decide) (by omega), hig2 60 r (by decide) (by omega)]; exact hrid r hr
      have hmBg : ∀ b, mB g2 n b = mB f n b := fun b => mB_same (hrg2 41 (by decide) (by decide)) (hrg2 43 (by decide) (by decide)) (hrg2 44 (by decide) (by decide)) (hrg2 45 (by decide) (by decide)) (hrg2 46 (by decide) (by decide)) (hrg2 47 (by decide) (by decide)) (ab_idx (fun r hr => ⟨hig2 57 r (by decide) (by omega), hig2 63 r (by decide) (by omega), hig2 60 r (by decide) (by omega)⟩) b)
      have hTg : ∀ b, b < nb → pk_B g2 b ∧ mt_I g2 b (TS b) ∧ (TS b).length ≤ 6 ∧ ∀ j, j < (TS b).length → (TS b).getD j 0 / 2 ≤ 30 := fun b hb => ⟨by unfold pk_B; rw [hrg2 41 (by decide) (by decide), hrg2 43 (by decide) (by decide), hrg2 44 (by decide) (by decide), hrg2 45 (by decide) (by decide), hrg2 46 (by decide) (by decide), hrg2 47 (by decide) (by decide)]; exact (hT b hb).1, mt_same (hT b hb).2.1 (hrg2 51 (by decide) (by decide)) (hrg2 52 (by decide) (by decide)), (hT b hb).2.2⟩
      refine a_aload_n C dX10_request_58 rfl ?_
      refine a_iload C dX10_request_59 rfl ?_
      refine a_callV (o := 40) (As := [ii_v ((n : Nat) : Int)]) C (m_plans hl g2 w hvg2 n (by rw [h4g2 30 (by decide)]; exact hn) hn30 hridg nb (by rw [h4g2 29 (by decide)]; exact hnb) hnb4 hTg (by rw [h4g2 32 (by decide)]; exact ⟨hnow.1, by omega⟩) n hn30b 0 0) co_X10_plans in_X10 ml_X10_213 im_X10_plans se_X10_plans rfl rfl ar_X10_plans ⟨by decide, by decide, by decide, by decide⟩ rfl (Nat.le_of_ble_eq_true rfl) dX10_request_61 (a_dF ?_) a_nF
      intro vg3 g3 hvg3
      obtain ⟨rfl, hatg3, hfg3, hpg3⟩ := hvg3
      rw [h4g2 32 (by decide), pa_b_rows (B2 := mB f n) (fun b _ => hmBg b)] at hatg3
      rw [hPB] at hatg3
      obtain ⟨hq1g3, hq2g3, hq3g3, -⟩ := hatg3
      have hrg3 : ∀ o, o ≠ 40 → o ≠ 75 → o ≠ 76 → (o < 53 ∨ 59 < o) → g3 o = f o := fun o h1 h2 h3 h5 => (hfg3 o h1 h2 h3).trans (hrg2 o h1 h5)
      have hig3 : ∀ o i, o ≠ 40 → o ≠ 75 → o ≠ 76 → i ≠ n → g3 o i = f o i := fun o i h1 h2 h3 h5 => (congrFun (hfg3 o h1 h2 h3) i).trans (hig2 o i h1 h5)
      have h4g3 : ∀ i, i < 37 → i ≠ 0 → g3 40 i = f 40 i := fun i h1 h2 => (hpg3 i (Or.inl h1)).trans (h4g2 i h2)
      have h0g3 : g3 40 0 = 0 := (hpg3 0 (by decide)).trans h0g2
      have hvg3 : pj_C g3 (vw_f v n x y u z m0 (f 40 32 + f 40 34) (pd_d x y u z * (100 + f 40 33) / 100)) := pj_same hvg2 (fun o2 h => hfg3 o2 (by omega) (by omega) (by omega))
      refine a_aload_n C dX10_request_64 rfl ?_
      refine a_dup C dX10_request_65 rfl ?_
      refine a_get (ci := 11) (i := 30) (v := ii_v (g3 40 30)) C iw_X10 rfl (by decide) rfl fl_X10_124 rfl rfl dX10_request_66 ?_
      refine a_top (w := ii_v ((n : Nat) : Int)) (congrArg (fun q => ii_v q) ((h4g3 30 (by decide) (by decide)).trans hn)) ?_
      refine a_iconst C dX10_request_69 ?_
      refine a_iadd C dX10_request_70 ?_
      refine a_put (ci := 11) (i := 30) C iw_X10 rfl (by decide) rfl tyX10 tyX10_ok nmX10 rfl rfl fl_X10_124 rfl rfl rfl rfl dX10_request_71 ?_
      obtain ⟨g4, eg4⟩ : ∃ F : Nat → Nat → Int, F = ii_up g3 40 30 (((n : Nat) : Int) + 1) := ⟨_, rfl⟩
      rw [← eg4]
      refine a_aload_n C dX10_request_74 rfl ?_
      refine a_get (ci := 11) (i := 38) (v := ii_v (g4 40 38)) C iw_X10 rfl (by decide) rfl fl_X10_173 rfl rfl dX10_request_75 ?_
      refine a_top (w := ii_v (g3 40 38)) (congrArg (fun q => ii_v q) (show g4 40 38 = (g3 40 38) by rw [eg4, ii_up_k _ _ (by first | decide | omega)])) ?_
      refine a_top (w := ii_v (-1)) (congrArg (fun q => ii_v q) hq1g3) ?_
      refine a_if_ge (tgt := 141) C dX10_request_78 rfl (by unfold ii_B; omega) (fun h78 => ?_) (fun h78 => ?_)
      · skip
        omega
      · skip
        refine a_aload_n C dX10_request_81 rfl ?_
        refine a_get (ci := 11) (i := 23) (v := .ref (ad 63)) C iw_X10 rfl (by decide) rfl fl_X10_76 rfl rfl dX10_request_82 ?_
        refine a_iload C dX10_request_85 rfl ?_
        refine a_bipush C dX10_request_87 (by decide) ?_
        refine a_cast (o := 63) (N := 31) n C dX10_request_89 rfl (by omega) (by omega) (by decide) (by decide) ?_
        obtain ⟨g5, eg5⟩ : ∃ F : Nat → Nat → Int, F = ii_up g4 63 n 120 := ⟨_, rfl⟩
        rw [← eg5]
        refine a_aload_n C dX10_request_90 rfl ?_
        refine a_get (ci := 11) (i := 24) (v := .ref (ad 64)) C iw_X10 rfl (by decide) rfl fl_X10_80 rfl rfl dX10_request_91 ?_
        refine a_iload C dX10_request_94 rfl ?_
        refine a_aload_n C dX10_request_96 rfl ?_
        refine a_get (ci := 11) (i := 42) (v := ii_v (g5 40 42)) C iw_X10 rfl (by decide) rfl fl_X10_176 rfl rfl dX10_request_97 ?_
        refine a_top (w := ii_v (g3 40 42)) (congrArg (fun q => ii_v q) (show g5 40 42 = (g3 40 42) by rw [eg5, ii_up_o _ _ _ (by omega), eg4, ii_up_k _ _ (by first | decide | omega)])) ?_
        refine a_top (w := ii_v W0) (congrArg (fun q => ii_v q) hq3g3) ?_
        refine a_iconst C dX10_request_100 ?_
        refine a_icmp_ne (tgt := 109) C dX10_request_101 rfl (by unfold ii_B; omega) (by unfold ii_B; omega) (fun h101 => ?_) (fun h101 => ?_)
        · skip
          refine a_aload_n C dX10_request_109 rfl ?_
          refine a_get (ci := 11) (i := 42) (v := ii_v (g5 40 42)) C iw_X10 rfl (by decide) rfl fl_X10_176 rfl rfl dX10_request_110 ?_
          refine a_top (w := ii_v (g3 40 42)) (congrArg (fun q => ii_v q) (show g5 40 42 = (g3 40 42) by rw [eg5, ii_up_o _ _ _ (by omega), eg4, ii_up_k _ _ (by first | decide | omega)])) ?_
          refine a_top (w := ii_v W0) (congrArg (fun q => ii_v q) hq3g3) ?_
          refine a_iconst C dX10_request_113 ?_
          refine a_icmp_ne (tgt := 122) C dX10_request_114 rfl (by unfold ii_B; omega) (by unfold ii_B; omega) (fun h114 => ?_) (fun h114 => ?_)
          · skip
            refine a_aload_n C dX10_request_122 rfl ?_
            refine a_get (ci := 11) (i := 42) (v := ii_v (g5 40 42)) C iw_X10 rfl (by decide) rfl fl_X10_176 rfl rfl dX10_request_123 ?_
            refine a_top (w := ii_v (g3 40 42)) (congrArg (fun q => ii_v q) (show g5 40 42 = (g3 40 42) by rw [eg5, ii_up_o _ _ _ (by omega), eg4, ii_up_k _ _ (by first | decide | omega)])) ?_
            refine a_top (w := ii_v W0) (congrArg (fun q => ii_v q) hq3g3) ?_
            refine a_iconst C dX10_request_126 ?_
            refine a_icmp_ne (tgt := 135) C dX10_request_127 rfl (by unfold ii_B; omega) (by unfold ii_B; omega) (fun h127 => ?_) (fun h127 => ?_)
            · skip
              refine a_bipush C dX10_request_135 (by decide) ?_
              refine a_cast (o := 64) (N := 31) n C dX10_request_137 rfl (by omega) (by omega) (by decide) (by decide) ?_
              obtain ⟨g6, eg6⟩ : ∃ F : Nat → Nat → Int, F = ii_up g5 64 n 98 := ⟨_, rfl⟩
              rw [← eg6]
              refine a_iload C dX10_request_138 rfl ?_
              refine a_iret C ?_ (by decide) (by decide) dX10_request_140
              rw [hPost]
              have hG : g6 = ii_up (ii_up (ii_up g3 40 30 ((n : Int) + 1)) 63 n 120) 64 n (sg_f W0) := by rw [eg6, eg5, eg4]; congr 1; unfold sg_f; first | rfl | (repeat (first | rw [if_pos (by omega)] | rw [if_neg (by omega)]))
              refine ab_F_of ⟨rfl, ?_, ⟨fun o h1 h2 h3 h4 => ?_, fun i h1 h2 => ?_⟩, ?_, ?_⟩
              · rw [hG, ii_up_o _ _ _ (by decide), ii_up_o _ _ _ (by decide), ii_up_k _ _ (by decide)]; exact h0g3
              · rw [hG, ii_up_row _ _ h1]; refine up_cong (up_cong ?_); rw [ii_up_row _ _ h1, hfg3 o h1 (by omega) (by omega), eg2]; exact wm_cong (hrg1 o h1) (h4g1 32 (by decide)) (h4g1 33 (by decide)) (h4g1 34 (by decide))
              · rw [hG, ii_up_o _ _ _ (by decide), ii_up_o _ _ _ (by decide)]; rcases Decidable.em (i = 30) with hi | hi; rw [hi, ii_up_s, ii_up_s]; rw [ii_up_k _ _ hi, ii_up_k _ _ hi, ii_up_o _ _ _ (by decide), ii_up_o _ _ _ (by decide), wm_row (by decide)]; exact h4g3 i h1 h2
              · rw [hG, ii_up_row _ _ (by decide), ii_up_row _ _ (by decide), ii_up_row _ _ (by decide)]; exact hrg3 51 (by decide) (by decide) (by decide) (by decide)
              · rw [hG, ii_up_row _ _ (by decide), ii_up_row _ _ (by decide), ii_up_row _ _ (by decide)]; exact hrg3 52 (by decide) (by decide) (by decide) (by decide)
            · skip
              refine a_bipush C dX10_request_130 (by decide) ?_
              refine a_goto (tgt := 137) C dX10_request_132 rfl ?_
              refine a_cast (o := 64) (N := 31) n C dX10_request_137 rfl (by omega) (by omega) (by decide) (by decide) ?_
              obtain ⟨g7, eg7⟩ : ∃ F : Nat → Nat → Int, F = ii_up g5 64 n 100 := ⟨_, rfl⟩
              rw [← eg7]
              refine a_iload C dX10_request_138 rfl ?_
              refine a_iret C ?_ (by decide) (by decide) dX10_request_140
              rw [hPost]
              have hG : g7 = ii_up (ii_up (ii_up g3 40 30 ((n : Int) + 1)) 63 n 120) 64 n (sg_f W0) := by rw [eg7, eg5, eg4]; congr 1; unfold sg_f; first | rfl | (repeat (first | rw [if_pos (by omega)] | rw [if_neg (by omega)]))
              refine ab_F_of ⟨rfl, ?_, ⟨fun o h1 h2 h3 h4 => ?_, fun i h1 h2 => ?_⟩, ?_, ?_⟩
              · rw [hG, ii_up_o _ _ _ (by decide), ii_up_o _ _ _ (by decide), ii_up_k _ _ (by decide)]; exact h0g3
              · rw [hG, ii_up_row _ _ h1]; refine up_cong (up_cong ?_); rw [ii_up_row _ _ h1, hfg3 o h1 (by omega) (by omega), eg2]; exact wm_cong (hrg1 o h1) (h4g1 32 (by decide)) (h4g1 33 (by decide)) (h4g1 34 (by decide))
              · rw [hG, ii_up_o _ _ _ (by decide), ii_up_o _ _ _ (by decide)]; rcases Decidable.em (i = 30) with hi | hi; rw [hi, ii_up_s, ii_up_s]; rw [ii_up_k _ _ hi, ii_up_k _ _ hi, ii_up_o _ _ _ (by decide), ii_up_o _ _ _ (by decide), wm_row (by decide)]; exact h4g3 i h1 h2
              · rw [hG, ii_up_row _ _ (by decide), ii_up_row _ _ (by decide), ii_up_row _ _ (by decide)]; exact hrg3 51 (by decide) (by decide) (by decide) (by decide)
              · rw [hG, ii_up_row _ _ (by decide), ii_up_row _ _ (by decide), ii_up_row _ _ (by decide)]; exact hrg3 52 (by decide) (by decide) (by decide) (by decide)
          · skip
            refine a_bipush C dX10_request_117 (by decide) ?_
            refine a_goto (tgt := 137) C dX10_request_119 rfl ?_
            refine a_cast (o := 64) (N := 31) n C dX10_request_137 rfl (by omega) (by omega) (by decide) (by decide) ?_
            obtain ⟨g8, eg8⟩ : ∃ F : Nat → Nat → Int, F = ii_up g5 64 n 119 := ⟨_, rfl⟩
            rw [← eg8]
            refine a_iload C dX10_request_138 rfl ?_
            refine a_iret C ?_ (by decide) (by decide) dX10_request_140
            rw [hPost]
            have hG : g8 = ii_up (ii_up (ii_up g3 40 30 ((n : Int) + 1)) 63 n 120) 64 n (sg_f W0) := by rw [eg8, eg5, eg4]; congr 1; unfold sg_f; first | rfl | (repeat (first | rw [if_pos (by omega)] | rw [if_neg (by omega)]))
            refine ab_F_of ⟨rfl, ?_, ⟨fun o h1 h2 h3 h4 => ?_, fun i h1 h2 => ?_⟩, ?_, ?_⟩
            · rw [hG, ii_up_o _ _ _ (by decide), ii_up_o _ _ _ (by decide), ii_up_k _ _ (by decide)]; exact h0g3
            · rw [hG, ii_up_row _ _ h1]; refine up_cong (up_cong ?_); rw [ii_up_row _ _ h1, hfg3 o h1 (by omega) (by omega), eg2]; exact wm_cong (hrg1 o h1) (h4g1 32 (by decide)) (h4g1 33 (by decide)) (h4g1 34 (by decide))
            · rw [hG, ii_up_o _ _ _ (by decide), ii_up_o _ _ _ (by decide)]; rcases Decidable.em (i = 30) with hi | hi; rw [hi, ii_up_s, ii_up_s]; rw [ii_up_k _ _ hi, ii_up_k _ _ hi, ii_up_o _ _ _ (by decide), ii_up_o _ _ _ (by decide), wm_row (by decide)]; exact h4g3 i h1 h2
            · rw [hG, ii_up_row _ _ (by decide), ii_up_row _ _ (by decide), ii_up_row _ _ (by decide)]; exact hrg3 51 (by decide) (by decide) (by decide) (by decide)
            · rw [hG, ii_up_row _ _ (by decide), ii_up_row _ _ (by decide), ii_up_row _ _ (by decide)]; exact hrg3 52 (by decide) (by decide) (by decide) (by decide)
        · skip
          refine a_bipush C dX10_request_104 (by decide) ?_
          refine a_goto (tgt := 137) C dX10_request_106 rfl ?_
          refine a_cast (o := 64) (N := 31) n C dX10_request_137 rfl (by omega) (by omega) (by decide) (by decide) ?_
          obtain ⟨g9, eg9⟩ : ∃ F : Nat → Nat → Int, F = ii_up g5 64 n 115 := ⟨_, rfl⟩
          rw [← eg9]
          refine a_iload C dX10_request_138 rfl ?_
          refine a_iret C ?_ (by decide) (by decide) dX10_request_140
          rw [hPost]
          have hG : g9 = ii_up (ii_up (ii_up g3 40 30 ((n : Int) + 1)) 63 n 120) 64 n (sg_f W0) := by rw [eg9, eg5, eg4]; congr 1; unfold sg_f; first | rfl | (repeat (first | rw [if_pos (by omega)] | rw [if_neg (by omega)]))
          refine ab_F_of ⟨rfl, ?_, ⟨fun o h1 h2 h3 h4 => ?_, fun i h1 h2 => ?_⟩, ?_, ?_⟩
          · rw [hG, ii_up_o _ _ _ (by decide), ii_up_o _ _ _ (by decide), ii_up_k _ _ (by decide)]; exact h0g3
          · rw [hG, ii_up_row _ _ h1]; refine up_cong (up_cong ?_); rw [ii_up_row _ _ h1, hfg3 o h1 (by omega) (by omega), eg2]; exact wm_cong (hrg1 o h1) (h4g1 32 (by decide)) (h4g1 33 (by decide)) (h4g1 34 (by decide))
          · rw [hG, ii_up_o _ _ _ (by decide), ii_up_o _ _ _ (by decide)]; rcases Decidable.em (i = 30) with hi | hi; rw [hi, ii_up_s, ii_up_s]; rw [ii_up_k _ _ hi, ii_up_k _ _ hi, ii_up_o _ _ _ (by decide), ii_up_o _ _ _ (by decide), wm_row (by decide)]; exact h4g3 i h1 h2
          · rw [hG, ii_up_row _ _ (by decide), ii_up_row _ _ (by decide), ii_up_row _ _ (by decide)]; exact hrg3 51 (by decide) (by decide) (by decide) (by decide)
          · rw [hG, ii_up_row _ _ (by decide), ii_up_row _ _ (by decide), ii_up_row _ _ (by decide)]; exact hrg3 52 (by decide) (by decide) (by decide) (by decide)
    · skip
      omega
  · skip
    omega
set_option maxRecDepth 20000 in
set_option maxHeartbeats 2000000 in
theorem m_request {l : Launch} {E : ab_E} {base : Nat} (hl : l.stackTraces = false) {ad : Nat → Nat} (f : Nat → Nat → Int) (w : Nat × Nat × Int64 × UInt64) {v : Nat → Nat → Int} (hv : pj_C f v) (n : Nat) (hn : f 40 30 = (n : Int)) (hn30 : n ≤ 30) (hrid : ∀ r, r < n → (0 ≤ f 57 r ∧ f 57 r ≤ 6) ∧ st_ok (f 63 r) ∧ -1 ≤ f 60 r ∧ f 60 r ≤ 10) (nb : Nat) (hnb : f 40 29 = (nb : Int)) (hnb4 : nb ≤ 4) {TS : Nat → List Nat} (hT : ∀ b, b < nb → pk_B f b ∧ mt_I f b (TS b) ∧ (TS b).length ≤ 6 ∧ ∀ j, j < (TS b).length → (TS b).getD j 0 / 2 ≤ 30) (hnow : 0 ≤ f 40 32 ∧ f 40 32 ≤ 90000) (hdt : 0 ≤ f 40 33 ∧ f 40 33 ≤ 200) (hwt : 0 ≤ f 40 34 ∧ f 40 34 ≤ 60) (x y u z m0 : Int) (zx : -2147483648 ≤ x ∧ x < 2147483648) (zy : -2147483648 ≤ y ∧ y < 2147483648) (zu : -2147483648 ≤ u ∧ u < 2147483648) (zz : -2147483648 ≤ z ∧ z < 2147483648) (zm0 : -2147483648 ≤ m0 ∧ m0 < 2147483648) (h : (((0 ≤ x ∧ x ≤ 20) ∧ (0 ≤ y ∧ y ≤ 20)) ∧ ((0 ≤ u ∧ u ≤ 20) ∧ (0 ≤ z ∧ z ≤ 20)) ∧ 1 ≤ m0 ∧ m0 ≤ 6)) (h2 : ¬ (x = u ∧ y = z)) (hn29 : n < 30) (b i j : Nat) (A W0 : Int) (hPB : (pa_b (vw_f v n x y u z m0 (f 40 32 + f 40 34) (pd_d x y u z * (100 + f 40 33) / 100)) (mB f n) TS n (f 40 32) nb (-1, 0, 0, 1000000, 1)) = ((b : Int), (i : Int), (j : Int), A, W0)) (hbn : b < nb) (hij : i ≤ j) (hjl : j ≤ (TS b).length) (hL6 : (lay_f n i j (TS b) 0).length ≤ 6) (e0 : Nat) (he : f 40 31 = (e0 : Int)) (h60 : e0 + (lay_f n i j (TS b) 0).length ≤ 60)  : ab_M l E base yX10_request cX10_request 7 (some .int) 9 0 0 [.ref (ad 40), ii_v x, ii_v y, ii_v u, ii_v z, ii_v m0] ab_x4 ad (f, w) (ab_F ad w (fun ov g => ov = some (ii_v (n : Int)) ∧ g 40 0 = 0 ∧ me_E g (mm_D (ii_up (ii_up (ii_up (wm_T f n x y u z m0) 63 n 119) 60 n (b : Int)) 40 30 ((n : Int) + 1)) b ((lay_f n i j (TS b) 0).take (du_n (vw_f v n x y u z m0 (f 40 32 + f 40 34) (pd_d x y u z * (100 + f 40 33) / 100)) (f 44 b) (f 45 b) (lay_f n i j (TS b) 0)))) ∧ mt_I g b ((lay_f n i j (TS b) 0).drop (du_n (vw_f v n x y u z m0 (f 40 32 + f 40 34) (pd_d x y u z * (100 + f 40 33) / 100)) (f 44 b) (f 45 b) (lay_f n i j (TS b) 0))) ∧ (∀ i, i ≠ b → g 51 i = f 51 i) ∧ ∀ i, i < 8 * b ∨ 8 * b + 8 ≤ i → g 52 i = f 52 i)) := by
  obtain ⟨Post, hPost⟩ : ∃ P : ab_P, P = (ab_F ad w (fun ov g => ov = some (ii_v (n : Int)) ∧ g 40 0 = 0 ∧ me_E g (mm_D (ii_up (ii_up (ii_up (wm_T f n x y u z m0) 63 n 119) 60 n (b : Int)) 40 30 ((n : Int) + 1)) b ((lay_f n i j (TS b) 0).take (du_n (vw_f v n x y u z m0 (f 40 32 + f 40 34) (pd_d x y u z * (100 + f 40 33) / 100)) (f 44 b) (f 45 b) (lay_f n i j (TS b) 0)))) ∧ mt_I g b ((lay_f n i j (TS b) 0).drop (du_n (vw_f v n x y u z m0 (f 40 32 + f 40 34) (pd_d x y u z * (100 + f 40 33) / 100)) (f 44 b) (f 45 b) (lay_f n i j (TS b) 0))) ∧ (∀ i, i ≠ b → g 51 i = f 51 i) ∧ ∀ i, i < 8 * b ∨ 8 * b + 8 ≤ i → g 52 i = f 52 i)) := ⟨_, rfl⟩
  rw [← hPost]
  refine ab_of RX10 [(0, .ref (ad 40)), (1, ii_v x), (2, ii_v y), (3, ii_v u), (4, ii_v z), (5, ii_v m0)] hl (by decide) rfl (Nat.le_of_ble_eq_true rfl) rfl ?_
  intro p e s m args below meth c C T0 hnm
  have hwc : (wc_f x y u z m0) = 0 := by unfold wc_f; rw [if_pos h, if_neg h2]
  have hn30b : n ≤ 30 := by omega
  have hb4 : b < 4 := by omega
  refine a_aload_n C dX10_request_0 rfl ?_
  refine a_aload_n C dX10_request_1 rfl ?_
  refine a_iload_n C dX10_request_2 rfl ?_
  refine a_iload_n C dX10_request_3 rfl ?_
  refine a_iload_n C dX10_request_4 rfl ?_
  refine a_iload C dX10_request_5 rfl ?_
  refine a_iload C dX10_request_7 rfl ?_
  refine a_callV (o := 40) (As := [ii_v x, ii_v y, ii_v u, ii_v z, ii_v m0]) C (m_wrong hl f w x y u z m0 (by omega) (by omega) (by omega) (by omega) (by omega)) co_X10_wrong in_X10 ml_X10_205 im_X10_wrong se_X10_wrong rfl rfl ar_X10_wrong ⟨by decide, by decide, by decide, by decide⟩ rfl (Nat.le_of_ble_eq_true rfl) dX10_request_9 (a_dR ?_) a_nR
  refine a_put (ci := 11) (i := 0) C iw_X10 rfl (by decide) rfl tyX10 tyX10_ok nmX10 rfl rfl fl_X10_114 rfl rfl rfl rfl dX10_request_12 ?_
  obtain ⟨g1, eg1⟩ : ∃ F : Nat → Nat → Int, F = ii_up f 40 0 (wc_f x y u z m0) := ⟨_, rfl⟩
  rw [← eg1]
  have hrg1 : ∀ o, o ≠ 40 → g1 o = f o := fun o h => by rw [eg1]; exact ii_up_row _ _ h
  have h4g1 : ∀ i, i ≠ 0 → g1 40 i = f 40 i := fun i h => by rw [eg1]; exact ii_up_k _ _ h
  refine a_aload_n C dX10_request_15 rfl ?_
  refine a_get (ci := 11) (i := 0) (v := ii_v (g1 40 0)) C iw_X10 rfl (by decide) rfl fl_X10_114 rfl rfl dX10_request_16 ?_
  refine a_top (w := ii_v (wc_f x y u z m0)) (congrArg (fun q => ii_v q) (show g1 40 0 = (wc_f x y u z m0) by rw [eg1, ii_up_s])) ?_
  refine a_if_le (tgt := 24) C dX10_request_19 rfl (by unfold ii_B; omega) (fun h19 => ?_) (fun h19 => ?_)
  · skip
    refine a_aload_n C dX10_request_24 rfl ?_
    refine a_get (ci := 11) (i := 30) (v := ii_v (g1 40 30)) C iw_X10 rfl (by decide) rfl fl_X10_124 rfl rfl dX10_request_25 ?_
    refine a_top (w := ii_v (f 40 30)) (congrArg (fun q => ii_v q) (show g1 40 30 = (f 40 30) by rw [eg1, ii_up_k _ _ (by first | decide | omega)])) ?_
    refine a_top (w := ii_v ((n : Nat) : Int)) (congrArg (fun q => ii_v q) hn) ?_
    refine a_bipush C dX10_request_28 (by decide) ?_
    refine a_icmp_ne (tgt := 39) C dX10_request_30 rfl (by unfold ii_B; omega) (by unfold ii_B; omega) (fun h30 => ?_) (fun h30 => ?_)
    · skip
      refine a_aload_n C dX10_request_39 rfl ?_
      refine a_get (ci := 11) (i := 30) (v := ii_v (g1 40 30)) C iw_X10 rfl (by decide) rfl fl_X10_124 rfl rfl dX10_request_40 ?_
      refine a_top (w := ii_v (f 40 30)) (congrArg (fun q => ii_v q) (show g1 40 30 = (f 40 30) by rw [eg1, ii_up_k _ _ (by first | decide | omega)])) ?_
      refine a_top (w := ii_v ((n : Nat) : Int)) (congrArg (fun q => ii_v q) hn) ?_
      refine a_istore (L' := [(0, .ref (ad 40)), (1, ii_v x), (2, ii_v y), (3, ii_v u), (4, ii_v z), (5, ii_v m0), (6, ii_v ((n : Nat) : Int))]) C dX10_request_43 (by decide) rfl ?_
      refine a_aload_n C dX10_request_45 rfl ?_
      refine a_iload C dX10_request_46 rfl ?_
      refine a_iload_n C dX10_request_48 rfl ?_
      refine a_iload_n C dX10_request_49 rfl ?_
      refine a_iload_n C dX10_request_50 rfl ?_
      refine a_iload C dX10_request_51 rfl ?_
      refine a_iload C dX10_request_53 rfl ?_
      refine a_callV (o := 40) (As := [ii_v ((n : Nat) : Int), ii_v x, ii_v y, ii_v u, ii_v z, ii_v m0]) C (m_writes hl g1 w n hn30b x y u z m0 h (by rw [h4g1 33 (by decide)]; exact hdt)) co_X10_writes in_X10 ml_X10_209 im_X10_writes se_X10_writes rfl rfl ar_X10_writes ⟨by decide, by decide, by decide, by decide⟩ rfl (Nat.le_of_ble_eq_true rfl) dX10_request_55 (a_dV ?_) a_nV
      obtain ⟨g2, eg2⟩ : ∃ F : Nat → Nat → Int, F = wm_T g1 n x y u z m0 := ⟨_, rfl⟩
      rw [← eg2]
      have hrg2 : ∀ o, o ≠ 40 → (o < 53 ∨ 59 < o) → g2 o = f o := fun o h1 h2 => by rw [eg2, wm_row h2]; exact hrg1 o h1
      have hig2 : ∀ o i, o ≠ 40 → i ≠ n → g2 o i = f o i := fun o i h1 h2 => by rw [eg2, wm_oth h2]; exact congrFun (hrg1 o h1) i
      have h4g2 : ∀ i, i ≠ 0 → g2 40 i = f 40 i := fun i h1 => by rw [eg2, wm_row (by decide)]; exact h4g1 i h1
      have h0g2 : g2 40 0 = 0 := by rw [eg2, wm_row (by decide), eg1, ii_up_s]; exact hwc
      have hvg2 : pj_C g2 (vw_f v n x y u z m0 (f 40 32 + f 40 34) (pd_d x y u z * (100 + f 40 33) / 100)) := by have hz := wm_pj (f := g1) (r := n) (pj_same hv (fun o2 h => hrg1 o2 (by omega))) (by rw [h4g1 32 (by decide)]; exact hnow) (by rw [h4g1 33 (by decide)]; exact hdt) (by rw [h4g1 34 (by decide)]; exact hwt) h; rw [h4g1 32 (by decide), h4g1 33 (by decide), h4g1 34 (by decide), ← eg2] at hz; exact hz
      have hridg : ∀ r, r < n → (0 ≤ g2 57 r ∧ g2 57 r ≤ 6) ∧ st_ok (g2 63 r) ∧ -1 ≤ g2 60 r ∧ g2 60 r ≤ 10 := fun r hr => by rw [hig2 57 r (by decide) (by omega), hig2 63 r (by decide) (by omega), hig2 60 r (by decide) (by omega)]; exact hrid r hr
      have hmBg : ∀ b, mB g2 n b = mB f n b := fun b => mB_same (hrg2 41 (by decide) (by decide)) (hrg2 43 (by decide) (by decide)) (hrg2 44 (by decide) (by decide)) (hrg2 45 (by decide) (by decide)) (hrg2 46 (by decide) (by decide)) (hrg2 47 (by decide) (by decide)) (ab_idx (fun r hr => ⟨hig2 57 r (by decide) (by omega), hig2 63 r (by decide) (by omega), hig2 60 r (by decide) (by omega)⟩) b)
      have hTg : ∀ b, b < nb → pk_B g2 b ∧ mt_I g2 b (TS b) ∧ (TS b).length ≤ 6 ∧ ∀ j, j < (TS b).length → (TS b).getD j 0 / 2 ≤ 30 := fun b hb => ⟨by unfold pk_B; rw [hrg2 41 (by decide) (by decide), hrg2 43 (by decide) (by decide), hrg2 44 (by decide) (by decide), hrg2 45 (by decide) (by decide), hrg2 46 (by decide) (by decide), hrg2 47 (by decide) (by decide)]; exact (hT b hb).1, mt_same (hT b hb).2.1 (hrg2 51 (by decide) (by decide)) (hrg2 52 (by decide) (by decide)), (hT b hb).2.2⟩
      refine a_aload_n C dX10_request_58 rfl ?_
      refine a_iload C dX10_request_59 rfl ?_
      refine a_callV (o := 40) (As := [ii_v ((n : Nat) : Int)]) C (m_plans hl g2 w hvg2 n (by rw [h4g2 30 (by decide)]; exact hn) hn30 hridg nb (by rw [h4g2 29 (by decide)]; exact hnb) hnb4 hTg (by rw [h4g2 32 (by decide)]; exact ⟨hnow.1, by omega⟩) n hn30b 0 0) co_X10_plans in_X10 ml_X10_213 im_X10_plans se_X10_plans rfl rfl ar_X10_plans ⟨by decide, by decide, by decide, by decide⟩ rfl (Nat.le_of_ble_eq_true rfl) dX10_request_61 (a_dF ?_) a_nF
      intro vg3 g3 hvg3
      obtain ⟨rfl, hatg3, hfg3, hpg3⟩ := hvg3
      rw [h4g2 32 (by decide), pa_b_rows (B2 := mB f n) (fun b _ => hmBg b)] at hatg3
      rw [hPB] at hatg3
      obtain ⟨hq1g3, hq2g3, hq3g3, -⟩ := hatg3
      have hrg3 : ∀ o, o ≠ 40 → o ≠ 75 → o ≠ 76 → (o < 53 ∨ 59 < o) → g3 o = f o := fun o h1 h2 h3 h5 => (hfg3 o h1 h2 h3).trans (hrg2 o h1 h5)
      have hig3 : ∀ o i, o ≠ 40 → o ≠ 75 → o ≠ 76 → i ≠ n → g3 o i = f o i := fun o i h1 h2 h3 h5 => (congrFun (hfg3 o h1 h2 h3) i).trans (hig2 o i h1 h5)
      have h4g3 : ∀ i, i < 37 → i ≠ 0 → g3 40 i = f 40 i := fun i h1 h2 => (hpg3 i (Or.inl h1)).trans (h4g2 i h2)
      have h0g3 : g3 40 0 = 0 := (hpg3 0 (by decide)).trans h0g2
      have hvg3 : pj_C g3 (vw_f v n x y u z m0 (f 40 32 + f 40 34) (pd_d x y u z * (100 + f 40 33) / 100)) := pj_same hvg2 (fun o2 h => hfg3 o2 (by omega) (by omega) (by omega))
      have h38g3 : g3 40 38 = (b : Int) := hq1g3
      obtain ⟨h39g3, h4xg3, -⟩ := hq2g3 (show (0 : Int) ≤ (b : Int) by omega)
      refine a_aload_n C dX10_request_64 rfl ?_
      refine a_dup C dX10_request_65 rfl ?_
      refine a_get (ci := 11) (i := 30) (v := ii_v (g3 40 30)) C iw_X10 rfl (by decide) rfl fl_X10_124 rfl rfl dX10_request_66 ?_
      refine a_top (w := ii_v ((n : Nat) : Int)) (congrArg (fun q => ii_v q) ((h4g3 30 (by decide) (by decide)).trans hn)) ?_
      refine a_iconst C dX10_request_69 ?_
      refine a_iadd C dX10_request_70 ?_
      refine a_put (ci := 11) (i := 30) C iw_X10 rfl (by decide) rfl tyX10 tyX10_ok nmX10 rfl rfl fl_X10_124 rfl rfl rfl rfl dX10_request_71 ?_
      obtain ⟨g4, eg4⟩ : ∃ F : Nat → Nat → Int, F = ii_up g3 40 30 (((n : Nat) : Int) + 1) := ⟨_, rfl⟩
      rw [← eg4]
      refine a_aload_n C dX10_request_74 rfl ?_
      refine a_get (ci := 11) (i := 38) (v := ii_v (g4 40 38)) C iw_X10 rfl (by decide) rfl fl_X10_173 rfl rfl dX10_request_75 ?_
      refine a_top (w := ii_v (g3 40 38)) (congrArg (fun q => ii_v q) (show g4 40 38 = (g3 40 38) by rw [eg4, ii_up_k _ _ (by first | decide | omega)])) ?_
      refine a_top (w := ii_v ((b : Nat) : Int)) (congrArg (fun q => ii_v q) h38g3) ?_
      refine a_if_ge (tgt := 141) C dX10_request_78 rfl (by unfold ii_B; omega) (fun h78 => ?_) (fun h78 => ?_)
      · skip
        refine a_aload_n C dX10_request_141 rfl ?_
        refine a_get (ci := 11) (i := 23) (v := .ref (ad 63)) C iw_X10 rfl (by decide) rfl fl_X10_76 rfl rfl dX10_request_142 ?_
        refine a_iload C dX10_request_145 rfl ?_
        refine a_bipush C dX10_request_147 (by decide) ?_
        refine a_cast (o := 63) (N := 31) n C dX10_request_149 rfl (by omega) (by omega) (by decide) (by decide) ?_
        obtain ⟨g5, eg5⟩ : ∃ F : Nat → Nat → Int, F = ii_up g4 63 n 119 := ⟨_, rfl⟩
        rw [← eg5]
        refine a_aload_n C dX10_request_150 rfl ?_
        refine a_get (ci := 11) (i := 20) (v := .ref (ad 60)) C iw_X10 rfl (by decide) rfl fl_X10_67 rfl rfl dX10_request_151 ?_
        refine a_iload C dX10_request_154 rfl ?_
        refine a_aload_n C dX10_request_156 rfl ?_
        refine a_get (ci := 11) (i := 38) (v := ii_v (g5 40 38)) C iw_X10 rfl (by decide) rfl fl_X10_173 rfl rfl dX10_request_157 ?_
        refine a_top (w := ii_v (g3 40 38)) (congrArg (fun q => ii_v q) (show g5 40 38 = (g3 40 38) by rw [eg5, ii_up_o _ _ _ (by omega), eg4, ii_up_k _ _ (by first | decide | omega)])) ?_
        refine a_top (w := ii_v ((b : Nat) : Int)) (congrArg (fun q => ii_v q) h38g3) ?_
        refine a_iast (o := 60) (N := 31) n C dX10_request_160 rfl (by omega) (by omega) (by decide) ?_
        obtain ⟨g6, eg6⟩ : ∃ F : Nat → Nat → Int, F = ii_up g5 60 n ((b : Nat) : Int) := ⟨_, rfl⟩
        rw [← eg6]
        have hG : g6 = ii_up (ii_up (ii_up g3 40 30 ((n : Int) + 1)) 63 n 119) 60 n (b : Int) := by rw [eg6, eg5, eg4]
        have h38g6 : g6 40 38 = (b : Int) := by rw [hG, ii_up_o _ _ _ (by decide), ii_up_o _ _ _ (by decide), ii_up_k _ _ (by decide)]; exact hq1g3
        have hSg6 : mt_I g6 b (TS b) := mt_same (hT b hbn).2.1 (by rw [hG, ii_up_row _ _ (by decide), ii_up_row _ _ (by decide), ii_up_row _ _ (by decide)]; exact hrg3 51 (by decide) (by decide) (by decide) (by decide)) (by rw [hG, ii_up_row _ _ (by decide), ii_up_row _ _ (by decide), ii_up_row _ _ (by decide)]; exact hrg3 52 (by decide) (by decide) (by decide) (by decide))
        have hAg6 : ∀ o, o ≠ 40 → o ≠ 75 → o ≠ 76 → g6 o = (ii_up (ii_up (ii_up (wm_T f n x y u z m0) 63 n 119) 60 n (b : Int)) 40 30 ((n : Int) + 1)) o := fun o h1 h2 h3 => by rw [hG, ii_up_row _ _ h1]; refine up_cong (up_cong ?_); rw [ii_up_row _ _ h1, hfg3 o h1 h2 h3, eg2]; exact wm_cong (hrg1 o h1) (h4g1 32 (by decide)) (h4g1 33 (by decide)) (h4g1 34 (by decide))
        have hA4g6 : ∀ i, i < 37 → i ≠ 0 → g6 40 i = (ii_up (ii_up (ii_up (wm_T f n x y u z m0) 63 n 119) 60 n (b : Int)) 40 30 ((n : Int) + 1)) 40 i := fun i h1 h2 => by rw [hG, ii_up_o _ _ _ (by decide), ii_up_o _ _ _ (by decide)]; rcases Decidable.em (i = 30) with hi | hi; rw [hi, ii_up_s, ii_up_s]; rw [ii_up_k _ _ hi, ii_up_k _ _ hi, ii_up_o _ _ _ (by decide), ii_up_o _ _ _ (by decide), wm_row (by decide)]; exact h4g3 i h1 h2
        have h0g6 : g6 40 0 = 0 := by rw [hG, ii_up_o _ _ _ (by decide), ii_up_o _ _ _ (by decide), ii_up_k _ _ (by decide)]; exact h0g3
        refine a_aload_n C dX10_request_161 rfl ?_
        refine a_aload_n C dX10_request_162 rfl ?_
        refine a_get (ci := 11) (i := 38) (v := ii_v (g6 40 38)) C iw_X10 rfl (by decide) rfl fl_X10_173 rfl rfl dX10_request_163 ?_
        refine a_top (w := ii_v (g3 40 38)) (congrArg (fun q => ii_v q) (show g6 40 38 = (g3 40 38) by rw [eg6, ii_up_o _ _ _ (by omega), eg5, ii_up_o _ _ _ (by omega), eg4, ii_up_k _ _ (by first | decide | omega)])) ?_
        refine a_top (w := ii_v ((b : Nat) : Int)) (congrArg (fun q => ii_v q) h38g3) ?_
        refine a_iload C dX10_request_166 rfl ?_
        refine a_aload_n C dX10_request_168 rfl ?_
        refine a_get (ci := 11) (i := 39) (v := ii_v (g6 40 39)) C iw_X10 rfl (by decide) rfl fl_X10_196 rfl rfl dX10_request_169 ?_
        refine a_top (w := ii_v (g3 40 39)) (congrArg (fun q => ii_v q) (show g6 40 39 = (g3 40 39) by rw [eg6, ii_up_o _ _ _ (by omega), eg5, ii_up_o _ _ _ (by omega), eg4, ii_up_k _ _ (by first | decide | omega)])) ?_
        refine a_top (w := ii_v ((i : Nat) : Int)) (congrArg (fun q => ii_v q) h39g3) ?_
        refine a_aload_n C dX10_request_172 rfl ?_
        refine a_get (ci := 11) (i := 40) (v := ii_v (g6 40 40)) C iw_X10 rfl (by decide) rfl fl_X10_199 rfl rfl dX10_request_173 ?_
        refine a_top (w := ii_v (g3 40 40)) (congrArg (fun q => ii_v q) (show g6 40 40 = (g3 40 40) by rw [eg6, ii_up_o _ _ _ (by omega), eg5, ii_up_o _ _ _ (by omega), eg4, ii_up_k _ _ (by first | decide | omega)])) ?_
        refine a_top (w := ii_v ((j : Nat) : Int)) (congrArg (fun q => ii_v q) h4xg3) ?_
        refine a_callV (o := 40) (As := [ii_v ((b : Nat) : Int), ii_v ((n : Nat) : Int), ii_v ((i : Nat) : Int), ii_v ((j : Nat) : Int)]) C (m_puts hl g6 w b hb4 hSg6 (hT b hbn).2.2.1 n i j (by omega) hij hjl) co_X10_puts in_X10 ml_X10_182 im_X10_puts se_X10_puts rfl rfl ar_X10_puts ⟨by decide, by decide, by decide, by decide⟩ rfl (Nat.le_of_ble_eq_true rfl) dX10_request_176 (a_dF ?_) a_nF
        intro vg7 g7 hvg7
        obtain ⟨rfl, hsg7, hfg7, hig7⟩ := hvg7
        have h38g7 : g7 40 38 = (b : Int) := (hig7 38 (by decide)).trans h38g6
        have h40g7 : ∀ i, i < 37 → g7 40 i = g6 40 i := fun i h => hig7 i (by omega)
        refine a_aload_n C dX10_request_179 rfl ?_
        refine a_aload_n C dX10_request_180 rfl ?_
        refine a_get (ci := 11) (i := 38) (v := ii_v (g7 40 38)) C iw_X10 rfl (by decide) rfl fl_X10_173 rfl rfl dX10_request_181 ?_
        refine a_top (w := ii_v ((b : Nat) : Int)) (congrArg (fun q => ii_v q) h38g7) ?_
        refine a_callV (o := 40) (As := [ii_v ((b : Nat) : Int)]) C (m_takes hl g7 w b hb4 hsg7) co_X10_takes in_X10 ml_X10_216 im_X10_takes se_X10_takes rfl rfl ar_X10_takes ⟨by decide, by decide, by decide, by decide⟩ rfl (Nat.le_of_ble_eq_true rfl) dX10_request_184 (a_dF ?_) a_nF
        intro vg8 g8 hvg8
        obtain ⟨rfl, hSg8, hfg8, hxg8, hyg8⟩ := hvg8
        have h38g8 : g8 40 38 = (b : Int) := (congrFun (hfg8 40 (by decide) (by decide)) 38).trans h38g7
        have hR : ∀ o, o ≠ 40 → o ≠ 51 → o ≠ 52 → o ≠ 75 → o ≠ 76 → g8 o = (ii_up (ii_up (ii_up (wm_T f n x y u z m0) 63 n 119) 60 n (b : Int)) 40 30 ((n : Int) + 1)) o := fun o h1 h2 h3 h4 h5 => (hfg8 o h2 h3).trans ((hfg7 o h1 h4).trans (hAg6 o h1 h4 h5))
        have hR4 : ∀ i, i < 37 → i ≠ 0 → g8 40 i = (ii_up (ii_up (ii_up (wm_T f n x y u z m0) 63 n 119) 60 n (b : Int)) 40 30 ((n : Int) + 1)) 40 i := fun i h1 h2 => (congrFun (hfg8 40 (by decide) (by decide)) i).trans ((h40g7 i h1).trans (hA4g6 i h1 h2))
        have hR0 : g8 40 0 = 0 := (congrFun (hfg8 40 (by decide) (by decide)) 0).trans ((h40g7 0 (by decide)).trans h0g6)
        have hvT : pj_C g8 (vw_f v n x y u z m0 (f 40 32 + f 40 34) (pd_d x y u z * (100 + f 40 33) / 100)) := pj_rows hvg3 (fun o2 i h h60 => (congrFun (hfg8 o2 (by omega) (by omega)) i).trans ((congrFun (hfg7 o2 (by omega) (by omega)) i).trans (by rw [hG, ii_up_o _ _ _ h60, ii_up_o _ _ _ (by omega), ii_up_o _ _ _ (by omega)])))
        have hrw41 : g8 41 = f 41 := (hR 41 (by decide) (by decide) (by decide) (by decide) (by decide)).trans (by rw [ii_up_row _ _ (by decide), ii_up_row _ _ (by decide), ii_up_row _ _ (by decide)]; exact wm_row (by decide))
        have hrw43 : g8 43 = f 43 := (hR 43 (by decide) (by decide) (by decide) (by decide) (by decide)).trans (by rw [ii_up_row _ _ (by decide), ii_up_row _ _ (by decide), ii_up_row _ _ (by decide)]; exact wm_row (by decide))
        have hrw44 : g8 44 = f 44 := (hR 44 (by decide) (by decide) (by decide) (by decide) (by decide)).trans (by rw [ii_up_row _ _ (by decide), ii_up_row _ _ (by decide), ii_up_row _ _ (by decide)]; exact wm_row (by decide))
        have hrw45 : g8 45 = f 45 := (hR 45 (by decide) (by decide) (by decide) (by decide) (by decide)).trans (by rw [ii_up_row _ _ (by decide), ii_up_row _ _ (by decide), ii_up_row _ _ (by decide)]; exact wm_row (by decide))
        have hrw46 : g8 46 = f 46 := (hR 46 (by decide) (by decide) (by decide) (by decide) (by decide)).trans (by rw [ii_up_row _ _ (by decide), ii_up_row _ _ (by decide), ii_up_row _ _ (by decide)]; exact wm_row (by decide))
        have hrw47 : g8 47 = f 47 := (hR 47 (by decide) (by decide) (by decide) (by decide) (by decide)).trans (by rw [ii_up_row _ _ (by decide), ii_up_row _ _ (by decide), ii_up_row _ _ (by decide)]; exact wm_row (by decide))
        have hBT : pk_B g8 b := by unfold pk_B; rw [hrw41, hrw43, hrw44, hrw45, hrw46, hrw47]; exact (hT b hbn).1
        have h32T : g8 40 32 = f 40 32 := (hR4 32 (by decide) (by decide)).trans (by rw [ii_up_k _ _ (by decide), ii_up_o _ _ _ (by decide), ii_up_o _ _ _ (by decide)]; exact congrFun (wm_row (by decide)) 32)
        have h31T : g8 40 31 = f 40 31 := (hR4 31 (by decide) (by decide)).trans (by rw [ii_up_k _ _ (by decide), ii_up_o _ _ _ (by decide), ii_up_o _ _ _ (by decide)]; exact congrFun (wm_row (by decide)) 31)
        refine a_aload_n C dX10_request_187 rfl ?_
        refine a_aload_n C dX10_request_188 rfl ?_
        refine a_get (ci := 11) (i := 38) (v := ii_v (g8 40 38)) C iw_X10 rfl (by decide) rfl fl_X10_173 rfl rfl dX10_request_189 ?_
        refine a_top (w := ii_v ((b : Nat) : Int)) (congrArg (fun q => ii_v q) h38g8) ?_
        refine a_callV (o := 40) (As := [ii_v ((b : Nat) : Int)]) C (m_stopsAt hl g8 w b hb4 hvT hBT hSg8 hL6 (lay_ok hn30b (hT b hbn).2.2.2) (by rw [h32T]; exact ⟨hnow.1, by omega⟩) e0 (by rw [h31T]; exact he) h60) co_X10_stopsAt in_X10 ml_X10_219 im_X10_stopsAt se_X10_stopsAt rfl rfl ar_X10_stopsAt ⟨by decide, by decide, by decide, by decide⟩ rfl (Nat.le_of_ble_eq_true rfl) dX10_request_192 (a_dF ?_) a_nF
        intro vg9 g9 hvg9
        obtain ⟨rfl, hsg9, hmg9, hxg9, hyg9⟩ := hvg9
        rw [hrw44, hrw45] at hsg9 hmg9
        refine a_pop C dX10_request_195 rfl ?_
        refine a_iload C dX10_request_196 rfl ?_
        refine a_iret C ?_ (by decide) (by decide) dX10_request_198
        rw [hPost]
        refine ab_F_of ⟨rfl, ?_, ⟨fun o h1 h2 h3 h4 => ?_, fun i h1 h2 => ?_⟩, hsg9, fun i hi => ?_, fun i hi => ?_⟩
        · rw [hmg9 40 (by decide) (by decide), mm_D0 (by decide)]; exact hR0
        · rw [hmg9 o (by omega) (by omega)]; exact (me_D _ (f := (ii_up (ii_up (ii_up (wm_T f n x y u z m0) 63 n 119) 60 n (b : Int)) 40 30 ((n : Int) + 1))) (g := g8) ⟨fun o h1 h2 h3 h4 => hR o h1 (by omega) (by omega) (by omega) (by omega), hR4⟩).1 o h1 h2 h3 h4
        · rw [hmg9 40 (by decide) (by decide)]; exact (me_D _ (f := (ii_up (ii_up (ii_up (wm_T f n x y u z m0) 63 n 119) 60 n (b : Int)) 40 30 ((n : Int) + 1))) (g := g8) ⟨fun o h1 h2 h3 h4 => hR o h1 (by omega) (by omega) (by omega) (by omega), hR4⟩).2 i h1 h2
        · rw [hxg9 i hi, hxg8 i hi, hfg7 51 (by decide) (by decide), hAg6 51 (by decide) (by decide) (by decide), ii_up_o _ _ _ (by decide), ii_up_o _ _ _ (by decide), ii_up_o _ _ _ (by decide)]; exact congrFun (wm_row (by decide)) i
        · rw [hyg9 i hi, hyg8 i hi, hfg7 52 (by decide) (by decide), hAg6 52 (by decide) (by decide) (by decide), ii_up_o _ _ _ (by decide), ii_up_o _ _ _ (by decide), ii_up_o _ _ _ (by decide)]; exact congrFun (wm_row (by decide)) i
      · skip
        omega
    · skip
      omega
  · skip
    omega
