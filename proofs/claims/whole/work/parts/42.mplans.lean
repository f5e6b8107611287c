/-! The model: copies, puts, plans. -/
/-- the bus b's tour in the model -/
def mt_I (f : Nat → Nat → Int) (b : Nat) (S : List Nat) : Prop := f 51 b = (S.length : Int) ∧ S.length ≤ 8 ∧ (∀ j, j < S.length → f 52 (8 * b + j) = ((S.getD j 0 : Nat) : Int)) ∧ ∀ j, j < S.length → S.getD j 0 < 64
theorem tr_app {f g1 g2 : Nat → Nat → Int} {P : List Nat} {q : Nat} (h : tr_I f P) (hl : P.length < 8) (hq : q < 64) (e1 : g1 = ii_up f 75 P.length ((q : Nat) : Int)) (e2 : g2 = ii_up g1 40 37 (((P.length : Nat) : Int) + 1)) : tr_I g2 (P ++ [q]) := by
  obtain ⟨h1, h2, h3, h4⟩ := h
  subst e2
  subst e1
  refine ⟨?_, ?_, fun j hj => ?_, fun j hj => ?_⟩
  · rw [ii_up_s, List.length_append]
    simp
  · rw [List.length_append]
    simp
    omega
  · rw [List.length_append] at hj
    simp at hj
    rw [ii_up_o _ _ _ (by decide)]
    rcases Nat.lt_or_ge j P.length with z | z
    · rw [ii_up_k _ _ (by omega), gd_app_l z]
      exact h3 j z
    · rw [show j = P.length by omega, ii_up_s, gd_app_r (Nat.le_refl _), Nat.sub_self]
      rfl
  · rw [List.length_append] at hj
    simp at hj
    rcases Nat.lt_or_ge j P.length with z | z
    · rw [gd_app_l z]
      exact h4 j z
    · rw [show j = P.length by omega, gd_app_r (Nat.le_refl _), Nat.sub_self]
      exact hq
theorem mt_same {f g : Nat → Nat → Int} {b : Nat} {S : List Nat} (h : mt_I f b S) (h1 : g 51 = f 51) (h2 : g 52 = f 52) : mt_I g b S := by
  unfold mt_I
  rw [h1, h2]
  exact h
theorem tr_put {f g : Nat → Nat → Int} {S : List Nat} {i : Nat} {u : Int} (h : tr_I f S) (hi : i ≠ 37) (e : g = ii_up f 40 i u) : tr_I g S := by
  subst e
  exact ⟨by rw [ii_up_k _ _ (fun z => hi z.symm)]; exact h.1, h.2.1, fun j hj => by rw [ii_up_o _ _ _ (by decide)]; exact h.2.2.1 j hj, h.2.2.2⟩
/-- a bus's numbers in the model, as the class numbers them -/
def mB (f : Nat → Nat → Int) (n b : Nat) : Nat → Int
  | 1 => f 41 b
  | 3 => f 46 b
  | 4 => f 47 b
  | 6 => f 44 b
  | 7 => f 45 b
  | 8 => f 43 b
  | 9 => ab_n f b n
  | _ => 0
/-- what the model keeps of the plans -/
def pm_at (g : Nat → Nat → Int) (s : pa_S) : Prop := g 40 38 = s.1 ∧ (0 ≤ s.1 → g 40 39 = s.2.1 ∧ g 40 40 = s.2.2.1 ∧ g 40 41 = s.2.2.2.1) ∧ g 40 42 = s.2.2.2.2 ∧ (s.1 < 0 → s.2.2.2.1 = 1000000)
def pm_bd (g : Nat → Nat → Int) : Prop := (-10 ≤ g 40 38 ∧ g 40 38 ≤ 10) ∧ (1 ≤ g 40 42 ∧ g 40 42 ≤ 4) ∧ (0 ≤ g 40 38 → -2000 ≤ g 40 41 ∧ g 40 41 ≤ 2000)
section PM
variable {f g g4 v : Nat → Nat → Int} {β : Nat → Int} {S : List Nat} {r b i j : Nat} {now : Int} {s : pa_S}
theorem pm_same (h : pm_at g s) (hs : ∀ i, i ≠ 37 → g4 40 i = g 40 i) : pm_at g4 s := by
  unfold pm_at
  rw [hs 38 (by decide), hs 39 (by decide), hs 40 (by decide), hs 41 (by decide), hs 42 (by decide)]
  exact h
theorem pm_bds (h : pm_bd g) (hs : ∀ i, i ≠ 37 → g4 40 i = g 40 i) : pm_bd g4 := by
  unfold pm_bd
  rw [hs 38 (by decide), hs 41 (by decide), hs 42 (by decide)]
  exact h
theorem pm_at0 (f : Nat → Nat → Int) (c4 c5 : Int) : pm_at (ii_up (ii_up f 40 38 (-1)) 40 42 1) (-1, c4, c5, 1000000, 1) := by
  refine ⟨by rw [ii_up_k _ _ (by decide), ii_up_s], fun h => absurd (show (0 : Int) ≤ -1 from h) (by decide), by rw [ii_up_s], fun _ => rfl⟩
theorem pm_bd0 (f : Nat → Nat → Int) : pm_bd (ii_up (ii_up f 40 38 (-1)) 40 42 1) := by
  refine ⟨by rw [ii_up_k _ _ (by decide), ii_up_s]; decide, by rw [ii_up_s]; decide, fun h => ?_⟩
  rw [ii_up_k _ _ (by decide), ii_up_s] at h
  exact absurd h (by decide)
theorem pm_no {F A : Int} (hFe : pl_fault v (lay_f r i j S 0) (β 6) (β 7) now (β 9) (β 1) (β 3) (β 4) (β 8) = F) (hAe : pl_len v (β 3) (β 4) (lay_f r i j S 0) (β 6) (β 7) - pl_len v (β 3) (β 4) S (β 6) (β 7) = A) (hst : pm_at g s) (hw : ∀ i, i ≠ 37 → i ≠ 42 → g4 40 i = g 40 i) (hx : g4 40 42 = max (g 40 42) F) (hc : ¬ (F = 0 ∧ A < s.2.2.2.1)) : pm_at g4 (pa_in v β S r now b i j s) := by
  obtain ⟨h1, h2, h3, h4⟩ := hst
  unfold pa_in
  rw [hFe, hAe, if_neg hc]
  unfold pm_at
  rw [hw 38 (by decide) (by decide), hw 39 (by decide) (by decide), hw 40 (by decide) (by decide), hw 41 (by decide) (by decide), hx, h3]
  exact ⟨h1, h2, rfl, h4⟩
theorem pm_yes {F A : Int} (hFe : pl_fault v (lay_f r i j S 0) (β 6) (β 7) now (β 9) (β 1) (β 3) (β 4) (β 8) = F) (hAe : pl_len v (β 3) (β 4) (lay_f r i j S 0) (β 6) (β 7) - pl_len v (β 3) (β 4) S (β 6) (β 7) = A) (hst : pm_at g s) (hF : F = 0) (hA : A < s.2.2.2.1)
    (h38 : g4 40 38 = ((b : Nat) : Int)) (h39 : g4 40 39 = ((i : Nat) : Int)) (h40 : g4 40 40 = ((j : Nat) : Int)) (h41 : g4 40 41 = A) (hx : g4 40 42 = max (g 40 42) F) : pm_at g4 (pa_in v β S r now b i j s) := by
  obtain ⟨h1, h2, h3, h4⟩ := hst
  unfold pa_in
  rw [hFe, hAe, if_pos ⟨hF, hA⟩]
  refine ⟨h38, fun _ => ⟨h39, h40, h41⟩, by rw [hx, h3], fun h => ?_⟩
  have h5 : ((b : Nat) : Int) < 0 := h
  omega
theorem pm_bN {F : Int} (hbd : pm_bd g) (hF : 0 ≤ F ∧ F ≤ 4) (h38 : g4 40 38 = g 40 38) (h41 : g4 40 41 = g 40 41) (hx : g4 40 42 = max (g 40 42) F) : pm_bd g4 := by
  unfold pm_bd at hbd ⊢
  rw [h38, h41, hx]
  exact ⟨hbd.1, by omega, hbd.2.2⟩
theorem pm_bY {F A : Int} (hbd : pm_bd g) (hF : 0 ≤ F ∧ F ≤ 4) (hb : b ≤ 10) (hA : -2000 ≤ A ∧ A ≤ 2000) (h38 : g4 40 38 = ((b : Nat) : Int)) (h41 : g4 40 41 = A) (hx : g4 40 42 = max (g 40 42) F) : pm_bd g4 := by
  unfold pm_bd at hbd ⊢
  rw [h38, h41, hx]
  exact ⟨by omega, by omega, fun _ => hA⟩
end PM
set_option maxRecDepth 20000 in
set_option maxHeartbeats 2000000 in
theorem m_copies {l : Launch} {E : ab_E} {base : Nat} (hl : l.stackTraces = false) {ad : Nat → Nat} (f : Nat → Nat → Int) (w : Nat × Nat × Int64 × UInt64) (b : Nat) (hb : b < 4) {S : List Nat} (hS : mt_I f b S) (hS6 : S.length ≤ 6)  : ab_M l E base yX10_copies cX10_copies 3 none 1 0 0 [.ref (ad 40), ii_v ((b : Nat) : Int)] ab_x4 ad (f, w) (ab_F ad w (fun r g => r = none ∧ tr_I g S ∧ (∀ o2, o2 ≠ 40 → o2 ≠ 75 → g o2 = f o2) ∧ ∀ i, i ≠ 37 → g 40 i = f 40 i)) := by
  obtain ⟨Post, hPost⟩ : ∃ P : ab_P, P = (ab_F ad w (fun r g => r = none ∧ tr_I g S ∧ (∀ o2, o2 ≠ 40 → o2 ≠ 75 → g o2 = f o2) ∧ ∀ i, i ≠ 37 → g 40 i = f 40 i)) := ⟨_, rfl⟩
  rw [← hPost]
  refine ab_of RX10 [(0, .ref (ad 40)), (1, ii_v ((b : Nat) : Int))] hl (by decide) rfl (Nat.le_of_ble_eq_true rfl) rfl ?_
  intro p e s m args below meth c C T0 hnm
  obtain ⟨hc, h8, hj, hb64⟩ := id hS
  refine a_aload_n C dX10_copies_0 rfl ?_
  refine a_aload_n C dX10_copies_1 rfl ?_
  refine a_get (ci := 11) (i := 11) (v := .ref (ad 51)) C iw_X10 rfl (by decide) rfl fl_X10_40 rfl rfl dX10_copies_2 ?_
  refine a_iload_n C dX10_copies_5 rfl ?_
  refine a_iald (o := 51) (N := 4) b C dX10_copies_6 rfl (by omega) (by omega) (by decide) ?_
  refine a_top (w := ii_v (f 51 b)) rfl ?_
  refine a_top (w := ii_v ((S.length : Nat) : Int)) (congrArg (fun q => ii_v q) hc) ?_
  refine a_put (ci := 11) (i := 37) C iw_X10 rfl (by decide) rfl tyX10 tyX10_ok nmX10 rfl rfl fl_X10_144 rfl rfl rfl rfl dX10_copies_7 ?_
  obtain ⟨g1, eg1⟩ : ∃ F : Nat → Nat → Int, F = ii_up f 40 37 ((S.length : Nat) : Int) := ⟨_, rfl⟩
  rw [← eg1]
  have hng1 : g1 40 37 = (S.length : Int) := by rw [eg1, ii_up_s]
  have hfrg1 : ∀ o2, o2 ≠ 40 → o2 ≠ 75 → g1 o2 = f o2 := fun o2 h h2 => by rw [eg1, ii_up_row _ _ h]
  refine a_iconst C dX10_copies_10 ?_
  refine a_istore_n (L' := [(0, .ref (ad 40)), (1, ii_v ((b : Nat) : Int)), (2, ii_v 0)]) C dX10_copies_11 (by decide) rfl ?_
  have loop12 : ∀ (NN12 : Nat) (k : Nat) (g : Nat → Nat → Int), S.length - k < NN12 → (k ≤ S.length) → (g 40 37 = (S.length : Int)) → (∀ j, j < k → g 75 j = ((S.getD j 0 : Nat) : Int)) → (∀ o2, o2 ≠ 40 → o2 ≠ 75 → g o2 = f o2) → (∀ i, i ≠ 37 → g 40 i = f 40 i) → ab_W p l e (ab_rm 1 0 0) s m args below meth c E base 3 (ab_Q below E base Post args s 0 0) ab_x4 ad (g, w) 0 0 12 [(0, .ref (ad 40)), (1, ii_v ((b : Nat) : Int)), (2, ii_v ((k : Nat) : Int))] [] := by
    intro NN12
    induction NN12 with
    | zero => intro k g hNN; exact absurd hNN (Nat.not_lt_zero _)
    | succ NN12 ih12 =>
      intro k g hNN hk hng hgj hfrg h40
      refine a_iload_n C dX10_copies_12 rfl ?_
      refine a_aload_n C dX10_copies_13 rfl ?_
      refine a_get (ci := 11) (i := 37) (v := ii_v (g 40 37)) C iw_X10 rfl (by decide) rfl fl_X10_144 rfl rfl dX10_copies_14 ?_
      refine a_top (w := ii_v ((S.length : Nat) : Int)) (congrArg (fun q => ii_v q) hng) ?_
      refine a_icmp_ge (tgt := 43) C dX10_copies_17 rfl (by unfold ii_B; omega) (by unfold ii_B; omega) (fun h17 => ?_) (fun h17 => ?_)
      · skip
        refine a_vret C ?_ (by decide) (by decide) dX10_copies_43
        rw [hPost]
        exact ab_F_of ⟨rfl, ⟨hng, h8, fun j h => hgj j (by omega), hb64⟩, hfrg, h40⟩
      · skip
        refine a_aload_n C dX10_copies_20 rfl ?_
        refine a_get (ci := 11) (i := 35) (v := .ref (ad 75)) C iw_X10 rfl (by decide) rfl fl_X10_102 rfl rfl dX10_copies_21 ?_
        refine a_iload_n C dX10_copies_24 rfl ?_
        refine a_aload_n C dX10_copies_25 rfl ?_
        refine a_get (ci := 11) (i := 12) (v := .ref (ad 52)) C iw_X10 rfl (by decide) rfl fl_X10_43 rfl rfl dX10_copies_26 ?_
        refine a_bipush C dX10_copies_29 (by decide) ?_
        refine a_iload_n C dX10_copies_31 rfl ?_
        refine a_imul C dX10_copies_32 ?_
        refine a_iload_n C dX10_copies_33 rfl ?_
        refine a_iadd C dX10_copies_34 ?_
        refine a_iald (o := 52) (N := 32) ((8 * b) + k) C dX10_copies_35 rfl (by omega) (by omega) (by decide) ?_
        refine a_top (w := ii_v (g 52 ((8 * b) + k))) rfl ?_
        refine a_top (w := ii_v ((S.getD k 0 : Nat) : Int)) (congrArg (fun q => ii_v q) ((congrFun (hfrg 52 (by decide) (by decide)) _).trans (hj k (by omega)))) ?_
        refine a_iast (o := 75) (N := 8) k C dX10_copies_36 rfl (by omega) (by omega) (by decide) ?_
        obtain ⟨g2, eg2⟩ : ∃ F : Nat → Nat → Int, F = ii_up g 75 k (((S.getD k 0) : Nat) : Int) := ⟨_, rfl⟩
        rw [← eg2]
        refine a_iinc (L' := [(0, .ref (ad 40)), (1, ii_v ((b : Nat) : Int)), (2, ii_v (((k : Nat) : Int) + 1))]) C dX10_copies_37 rfl (by decide) rfl ?_
        refine a_goto (tgt := 12) C dX10_copies_40 rfl ?_
        exact ih12 (k + 1) g2 (by omega) (by omega) (by rw [eg2, ii_up_o _ _ _ (by decide)]; exact hng) (by rw [eg2]; exact lt_s (fun j h => by rw [ii_up_k _ _ (by omega)]; exact hgj j h) (ii_up_s _ _ _ _)) (fun o2 h h2 => by rw [eg2, ii_up_row _ _ h2]; exact hfrg o2 h h2) (fun i h => by rw [eg2, ii_up_o _ _ _ (by decide)]; exact h40 i h)
  exact loop12 (_ + 1) 0 g1 (Nat.lt_succ_self _) (Nat.zero_le _) hng1 (fun j h => absurd h (Nat.not_lt_zero j)) hfrg1 (fun i h => by rw [eg1]; exact ii_up_k _ _ h)
set_option maxRecDepth 20000 in
set_option maxHeartbeats 2000000 in
theorem m_lengthOf {l : Launch} {E : ab_E} {base : Nat} (hl : l.stackTraces = false) {ad : Nat → Nat} (f : Nat → Nat → Int) (w : Nat × Nat × Int64 × UInt64) (b : Nat) (hb : b < 4) {v : Nat → Nat → Int} (hv : pj_C f v) (hB : pk_B f b) {S : List Nat} (hS : mt_I f b S) (hS6 : S.length ≤ 6) (hq : ∀ j, j < S.length → S.getD j 0 / 2 ≤ 30) (hnow : 0 ≤ f 40 32 ∧ f 40 32 ≤ 100000)  : ab_M l E base yX10_lengthOf cX10_lengthOf 2 (some .int) 4 0 0 [.ref (ad 40), ii_v ((b : Nat) : Int)] ab_x4 ad (f, w) (ab_F ad w (fun r g => r = some (ii_v (pl_len v (f 46 b) (f 47 b) S (f 44 b) (f 45 b))) ∧ tr_I g S ∧ (∀ j, j < S.length → g 76 j = (pl_tm v S (f 44 b) (f 45 b) (f 40 32)).getD j 0) ∧ (∀ o2, o2 ≠ 40 → o2 ≠ 75 → o2 ≠ 76 → g o2 = f o2) ∧ ∀ i, i ≠ 37 → g 40 i = f 40 i)) := by
  obtain ⟨Post, hPost⟩ : ∃ P : ab_P, P = (ab_F ad w (fun r g => r = some (ii_v (pl_len v (f 46 b) (f 47 b) S (f 44 b) (f 45 b))) ∧ tr_I g S ∧ (∀ j, j < S.length → g 76 j = (pl_tm v S (f 44 b) (f 45 b) (f 40 32)).getD j 0) ∧ (∀ o2, o2 ≠ 40 → o2 ≠ 75 → o2 ≠ 76 → g o2 = f o2) ∧ ∀ i, i ≠ 37 → g 40 i = f 40 i)) := ⟨_, rfl⟩
  rw [← hPost]
  refine ab_of RX10 [(0, .ref (ad 40)), (1, ii_v ((b : Nat) : Int))] hl (by decide) rfl (Nat.le_of_ble_eq_true rfl) rfl ?_
  intro p e s m args below meth c C T0 hnm
  refine a_aload_n C dX10_lengthOf_0 rfl ?_
  refine a_iload_n C dX10_lengthOf_1 rfl ?_
  refine a_callV (o := 40) (As := [ii_v ((b : Nat) : Int)]) C (m_copies hl f w b hb hS hS6) co_X10_copies in_X10 ml_X10_169 im_X10_copies se_X10_copies rfl rfl ar_X10_copies ⟨by decide, by decide, by decide, by decide⟩ rfl (Nat.le_of_ble_eq_true rfl) dX10_lengthOf_2 (a_dF ?_) a_nF
  intro vg1 g1 hvg1
  obtain ⟨rfl, hsg1, hfg1, h40g1⟩ := hvg1
  have h41g1 : g1 41 = f 41 := hfg1 41 (by decide) (by decide)
  have h43g1 : g1 43 = f 43 := hfg1 43 (by decide) (by decide)
  have h44g1 : g1 44 = f 44 := hfg1 44 (by decide) (by decide)
  have h45g1 : g1 45 = f 45 := hfg1 45 (by decide) (by decide)
  have h46g1 : g1 46 = f 46 := hfg1 46 (by decide) (by decide)
  have h47g1 : g1 47 = f 47 := hfg1 47 (by decide) (by decide)
  have htg1 : g1 40 32 = f 40 32 := h40g1 32 (by decide)
  have hvg12 : pj_C g1 v := pj_same hv (fun o2 h => hfg1 o2 (by omega) (by omega))
  have hBg1 : pk_B g1 b := by unfold pk_B; rw [h41g1, h43g1, h44g1, h45g1, h46g1, h47g1]; exact hB
  refine a_aload_n C dX10_lengthOf_5 rfl ?_
  refine a_iload_n C dX10_lengthOf_6 rfl ?_
  refine a_callV (o := 40) (As := [ii_v ((b : Nat) : Int)]) C (m_runs hl g1 w b hb hvg12 hBg1 hsg1 hq (by rw [htg1]; exact hnow)) co_X10_runs in_X10 ml_X10_160 im_X10_runs se_X10_runs rfl rfl ar_X10_runs ⟨by decide, by decide, by decide, by decide⟩ rfl (Nat.le_of_ble_eq_true rfl) dX10_lengthOf_7 (a_dF ?_) a_nF
  intro vg2 g2 hvg2
  obtain ⟨hr0, hTg2, hgg2⟩ := hvg2
  rw [h44g1, h45g1, h46g1, h47g1] at hr0
  rw [h44g1, h45g1, htg1] at hTg2
  subst hr0
  refine a_iret C ?_ (by decide) (by decide) dX10_lengthOf_10
  rw [hPost]
  exact ab_F_of ⟨rfl, tr_same hsg1 (hgg2 40 (by decide)) (hgg2 75 (by decide)), hTg2, fun o2 h1 h2 h3 => (hgg2 o2 h3).trans (hfg1 o2 h1 h2), fun i h => (congrFun (hgg2 40 (by decide)) i).trans (h40g1 i h)⟩
set_option maxRecDepth 20000 in
set_option maxHeartbeats 2000000 in
theorem m_puts {l : Launch} {E : ab_E} {base : Nat} (hl : l.stackTraces = false) {ad : Nat → Nat} (f : Nat → Nat → Int) (w : Nat × Nat × Int64 × UInt64) (b : Nat) (hb : b < 4) {S : List Nat} (hS : mt_I f b S) (hS6 : S.length ≤ 6) (r i j : Nat) (hr32 : r < 31) (hij : i ≤ j) (hjl : j ≤ S.length) : ab_M l E base yX10_puts cX10_puts 6 none 1 0 0 [.ref (ad 40), ii_v ((b : Nat) : Int), ii_v ((r : Nat) : Int), ii_v ((i : Nat) : Int), ii_v ((j : Nat) : Int)] ab_x4 ad (f, w) (ab_F ad w (fun ov g => ov = none ∧ tr_I g (lay_f r i j S 0) ∧ (∀ o2, o2 ≠ 40 → o2 ≠ 75 → g o2 = f o2) ∧ ∀ i, i ≠ 37 → g 40 i = f 40 i)) := by
  obtain ⟨Post, hPost⟩ : ∃ P : ab_P, P = (ab_F ad w (fun ov g => ov = none ∧ tr_I g (lay_f r i j S 0) ∧ (∀ o2, o2 ≠ 40 → o2 ≠ 75 → g o2 = f o2) ∧ ∀ i, i ≠ 37 → g 40 i = f 40 i)) := ⟨_, rfl⟩
  rw [← hPost]
  refine ab_of RX10 [(0, .ref (ad 40)), (1, ii_v ((b : Nat) : Int)), (2, ii_v ((r : Nat) : Int)), (3, ii_v ((i : Nat) : Int)), (4, ii_v ((j : Nat) : Int))] hl (by decide) rfl (Nat.le_of_ble_eq_true rfl) rfl ?_
  intro p e s m args below meth c C T0 hnm
  obtain ⟨hc, h8, hj, hb64⟩ := id hS
  refine a_aload_n C dX10_puts_0 rfl ?_
  refine a_iconst C dX10_puts_1 ?_
  refine a_put (ci := 11) (i := 37) C iw_X10 rfl (by decide) rfl tyX10 tyX10_ok nmX10 rfl rfl fl_X10_144 rfl rfl rfl rfl dX10_puts_2 ?_
  obtain ⟨g1, eg1⟩ : ∃ F : Nat → Nat → Int, F = ii_up f 40 37 0 := ⟨_, rfl⟩
  rw [← eg1]
  refine a_iconst C dX10_puts_5 ?_
  refine a_istore (L' := [(0, .ref (ad 40)), (1, ii_v ((b : Nat) : Int)), (2, ii_v ((r : Nat) : Int)), (3, ii_v ((i : Nat) : Int)), (4, ii_v ((j : Nat) : Int)), (5, ii_v 0)]) C dX10_puts_6 (by decide) rfl ?_
  have loop8 : ∀ (NN8 : Nat) (k : Nat) (P : List Nat) (g : Nat → Nat → Int), S.length + 1 - k < NN8 → (k ≤ S.length + 1) → (tr_I g P) → (∀ o2, o2 ≠ 40 → o2 ≠ 75 → g o2 = f o2) → (∀ i, i ≠ 37 → g 40 i = f 40 i) → (k ≤ S.length → P.length = k + (if i < k then 1 else 0) + (if j < k then 1 else 0)) → ((k ≤ S.length → P ++ lay_f r i j (S.drop k) k = lay_f r i j S 0) ∧ (k = S.length + 1 → P = lay_f r i j S 0)) → ab_W p l e (ab_rm 1 0 0) s m args below meth c E base 6 (ab_Q below E base Post args s 0 0) ab_x4 ad (g, w) 0 0 8 [(0, .ref (ad 40)), (1, ii_v ((b : Nat) : Int)), (2, ii_v ((r : Nat) : Int)), (3, ii_v ((i : Nat) : Int)), (4, ii_v ((j : Nat) : Int)), (5, ii_v ((k : Nat) : Int))] [] := by
    intro NN8
    induction NN8 with
    | zero => intro k P g hNN; exact absurd hNN (Nat.not_lt_zero _)
    | succ NN8 ih8 =>
      intro k P g hNN hk hP hfr h40 hPl hE
      refine a_iload C dX10_puts_8 rfl ?_
      refine a_aload_n C dX10_puts_10 rfl ?_
      refine a_get (ci := 11) (i := 11) (v := .ref (ad 51)) C iw_X10 rfl (by decide) rfl fl_X10_40 rfl rfl dX10_puts_11 ?_
      refine a_iload_n C dX10_puts_14 rfl ?_
      refine a_iald (o := 51) (N := 4) b C dX10_puts_15 rfl (by omega) (by omega) (by decide) ?_
      refine a_top (w := ii_v (g 51 b)) rfl ?_
      refine a_top (w := ii_v ((S.length : Nat) : Int)) (congrArg (fun q => ii_v q) ((congrFun (hfr 51 (by decide) (by decide)) _).trans hc)) ?_
      refine a_icmp_gt (tgt := 126) C dX10_puts_16 rfl (by unfold ii_B; omega) (by unfold ii_B; omega) (fun h16 => ?_) (fun h16 => ?_)
      · skip
        refine a_vret C ?_ (by decide) (by decide) dX10_puts_126
        rw [hPost]
        refine ab_F_of ⟨rfl, ?_, hfr, h40⟩
        rw [← hE.2 (by omega)]
        exact hP
      · skip
        refine a_iload C dX10_puts_19 rfl ?_
        refine a_iload_n C dX10_puts_21 rfl ?_
        refine a_icmp_ne (tgt := 47) C dX10_puts_22 rfl (by unfold ii_B; omega) (by unfold ii_B; omega) (fun h22 => ?_) (fun h22 => ?_)
        · skip
          refine a_iload C dX10_puts_47 rfl ?_
          refine a_iload C dX10_puts_49 rfl ?_
          refine a_icmp_ne (tgt := 78) C dX10_puts_51 rfl (by unfold ii_B; omega) (by unfold ii_B; omega) (fun h51 => ?_) (fun h51 => ?_)
          · skip
            refine a_iload C dX10_puts_78 rfl ?_
            refine a_aload_n C dX10_puts_80 rfl ?_
            refine a_get (ci := 11) (i := 11) (v := .ref (ad 51)) C iw_X10 rfl (by decide) rfl fl_X10_40 rfl rfl dX10_puts_81 ?_
            refine a_iload_n C dX10_puts_84 rfl ?_
            refine a_iald (o := 51) (N := 4) b C dX10_puts_85 rfl (by omega) (by omega) (by decide) ?_
            refine a_top (w := ii_v (g 51 b)) rfl ?_
            refine a_top (w := ii_v ((S.length : Nat) : Int)) (congrArg (fun q => ii_v q) ((congrFun (hfr 51 (by decide) (by decide)) _).trans hc)) ?_
            refine a_icmp_ge (tgt := 120) C dX10_puts_86 rfl (by unfold ii_B; omega) (by unfold ii_B; omega) (fun h86 => ?_) (fun h86 => ?_)
            · skip
              refine a_iinc (L' := [(0, .ref (ad 40)), (1, ii_v ((b : Nat) : Int)), (2, ii_v ((r : Nat) : Int)), (3, ii_v ((i : Nat) : Int)), (4, ii_v ((j : Nat) : Int)), (5, ii_v (((k : Nat) : Int) + 1))]) C dX10_puts_120 rfl (by decide) rfl ?_
              refine a_goto (tgt := 8) C dX10_puts_123 rfl ?_
              exact ih8 (k + 1) P g (by omega) (by omega) hP hfr h40 (fun h => by omega) ⟨fun h => (by omega), fun _ => (by have e := hE.1 (by omega); rw [List.drop_eq_nil_of_le (by omega)] at e; simp only [lay_f] at e; (first | rw [if_pos (show k = i by omega)] at e | rw [if_neg (show ¬ k = i by omega)] at e); (first | rw [if_pos (show k = j by omega)] at e | rw [if_neg (show ¬ k = j by omega)] at e); simpa using e)⟩
            · skip
              have hlP : (P).length < 8 := (by have := lay_b (hPl (by omega)) ((if_neg (by omega)).symm) ((if_neg (by omega)).symm); omega)
              have hbk := hb64 k (by omega)
              refine a_aload_n C dX10_puts_89 rfl ?_
              refine a_get (ci := 11) (i := 35) (v := .ref (ad 75)) C iw_X10 rfl (by decide) rfl fl_X10_102 rfl rfl dX10_puts_90 ?_
              refine a_aload_n C dX10_puts_93 rfl ?_
              refine a_get (ci := 11) (i := 37) (v := ii_v (g 40 37)) C iw_X10 rfl (by decide) rfl fl_X10_144 rfl rfl dX10_puts_94 ?_
              refine a_top (w := ii_v ((P.length : Nat) : Int)) (congrArg (fun q => ii_v q) hP.1) ?_
              refine a_aload_n C dX10_puts_97 rfl ?_
              refine a_get (ci := 11) (i := 12) (v := .ref (ad 52)) C iw_X10 rfl (by decide) rfl fl_X10_43 rfl rfl dX10_puts_98 ?_
              refine a_bipush C dX10_puts_101 (by decide) ?_
              refine a_iload_n C dX10_puts_103 rfl ?_
              refine a_imul C dX10_puts_104 ?_
              refine a_iload C dX10_puts_105 rfl ?_
              refine a_iadd C dX10_puts_107 ?_
              refine a_iald (o := 52) (N := 32) ((8 * b) + k) C dX10_puts_108 rfl (by omega) (by omega) (by decide) ?_
              refine a_top (w := ii_v (g 52 ((8 * b) + k))) rfl ?_
              refine a_top (w := ii_v ((S.getD k 0 : Nat) : Int)) (congrArg (fun q => ii_v q) ((congrFun (hfr 52 (by decide) (by decide)) _).trans (hj k (by omega)))) ?_
              refine a_iast (o := 75) (N := 8) P.length C dX10_puts_109 rfl (by omega) (by omega) (by decide) ?_
              obtain ⟨g2, eg2⟩ : ∃ F : Nat → Nat → Int, F = ii_up g 75 P.length (((S.getD k 0) : Nat) : Int) := ⟨_, rfl⟩
              rw [← eg2]
              refine a_aload_n C dX10_puts_110 rfl ?_
              refine a_dup C dX10_puts_111 rfl ?_
              refine a_get (ci := 11) (i := 37) (v := ii_v (g2 40 37)) C iw_X10 rfl (by decide) rfl fl_X10_144 rfl rfl dX10_puts_112 ?_
              refine a_top (w := ii_v ((P.length : Nat) : Int)) (congrArg (fun q => ii_v q) (by rw [eg2, ii_up_o _ _ _ (by decide)]; exact hP.1)) ?_
              refine a_iconst C dX10_puts_115 ?_
              refine a_iadd C dX10_puts_116 ?_
              refine a_put (ci := 11) (i := 37) C iw_X10 rfl (by decide) rfl tyX10 tyX10_ok nmX10 rfl rfl fl_X10_144 rfl rfl rfl rfl dX10_puts_117 ?_
              obtain ⟨g3, eg3⟩ : ∃ F : Nat → Nat → Int, F = ii_up g2 40 37 (((P.length : Nat) : Int) + 1) := ⟨_, rfl⟩
              rw [← eg3]
              have hPg3 : tr_I g3 (P ++ [(S.getD k 0)]) := tr_app hP ((by have := lay_b (hPl (by omega)) ((if_neg (by omega)).symm) ((if_neg (by omega)).symm); omega)) (by omega) eg2 eg3
              have hfrg3 : ∀ o2, o2 ≠ 40 → o2 ≠ 75 → g3 o2 = f o2 := fun o2 h h2 => by rw [eg3, ii_up_row _ _ h, eg2, ii_up_row _ _ h2]; exact hfr o2 h h2
              have h40g3 : ∀ i, i ≠ 37 → g3 40 i = f 40 i := fun i h => by rw [eg3, ii_up_k _ _ h, eg2, ii_up_o _ _ _ (by decide)]; exact h40 i h
              refine a_iinc (L' := [(0, .ref (ad 40)), (1, ii_v ((b : Nat) : Int)), (2, ii_v ((r : Nat) : Int)), (3, ii_v ((i : Nat) : Int)), (4, ii_v ((j : Nat) : Int)), (5, ii_v (((k : Nat) : Int) + 1))]) C dX10_puts_120 rfl (by decide) rfl ?_
              refine a_goto (tgt := 8) C dX10_puts_123 rfl ?_
              exact ih8 (k + 1) (P ++ [(S.getD k 0)]) g3 (by omega) (by omega) hPg3 hfrg3 h40g3 (fun h => lay_len (hPl (by omega)) ((if_neg (by omega)).symm) ((if_neg (by omega)).symm) (by simp)) ⟨fun _ => (by have e := hE.1 (by omega); rw [ls_drop (by omega)] at e; simp only [lay_f] at e; (first | rw [if_pos (show k = i by omega)] at e | rw [if_neg (show ¬ k = i by omega)] at e); (first | rw [if_pos (show k = j by omega)] at e | rw [if_neg (show ¬ k = j by omega)] at e); simpa using e), fun h => (by omega)⟩
          · skip
            have hlP : (P).length < 8 := (by have := lay_b (hPl (by omega)) ((if_neg (by omega)).symm) ((if_pos (by omega)).symm); omega)
            refine a_aload_n C dX10_puts_54 rfl ?_
            refine a_get (ci := 11) (i := 35) (v := .ref (ad 75)) C iw_X10 rfl (by decide) rfl fl_X10_102 rfl rfl dX10_puts_55 ?_
            refine a_aload_n C dX10_puts_58 rfl ?_
            refine a_get (ci := 11) (i := 37) (v := ii_v (g 40 37)) C iw_X10 rfl (by decide) rfl fl_X10_144 rfl rfl dX10_puts_59 ?_
            refine a_top (w := ii_v ((P.length : Nat) : Int)) (congrArg (fun q => ii_v q) hP.1) ?_
            refine a_iconst C dX10_puts_62 ?_
            refine a_iload_n C dX10_puts_63 rfl ?_
            refine a_imul C dX10_puts_64 ?_
            refine a_iconst C dX10_puts_65 ?_
            refine a_iadd C dX10_puts_66 ?_
            refine a_iast (o := 75) (N := 8) P.length C dX10_puts_67 rfl (by omega) (by omega) (by decide) ?_
            obtain ⟨g4, eg4⟩ : ∃ F : Nat → Nat → Int, F = ii_up g 75 P.length ((2 * ((r : Nat) : Int)) + 1) := ⟨_, rfl⟩
            rw [← eg4]
            refine a_aload_n C dX10_puts_68 rfl ?_
            refine a_dup C dX10_puts_69 rfl ?_
            refine a_get (ci := 11) (i := 37) (v := ii_v (g4 40 37)) C iw_X10 rfl (by decide) rfl fl_X10_144 rfl rfl dX10_puts_70 ?_
            refine a_top (w := ii_v ((P.length : Nat) : Int)) (congrArg (fun q => ii_v q) (by rw [eg4, ii_up_o _ _ _ (by decide)]; exact hP.1)) ?_
            refine a_iconst C dX10_puts_73 ?_
            refine a_iadd C dX10_puts_74 ?_
            refine a_put (ci := 11) (i := 37) C iw_X10 rfl (by decide) rfl tyX10 tyX10_ok nmX10 rfl rfl fl_X10_144 rfl rfl rfl rfl dX10_puts_75 ?_
            obtain ⟨g5, eg5⟩ : ∃ F : Nat → Nat → Int, F = ii_up g4 40 37 (((P.length : Nat) : Int) + 1) := ⟨_, rfl⟩
            rw [← eg5]
            have hPg5 : tr_I g5 (P ++ [(2 * r + 1)]) := tr_app hP ((by have := lay_b (hPl (by omega)) ((if_neg (by omega)).symm) ((if_pos (by omega)).symm); omega)) (by omega) eg4 eg5
            have hfrg5 : ∀ o2, o2 ≠ 40 → o2 ≠ 75 → g5 o2 = f o2 := fun o2 h h2 => by rw [eg5, ii_up_row _ _ h, eg4, ii_up_row _ _ h2]; exact hfr o2 h h2
            have h40g5 : ∀ i, i ≠ 37 → g5 40 i = f 40 i := fun i h => by rw [eg5, ii_up_k _ _ h, eg4, ii_up_o _ _ _ (by decide)]; exact h40 i h
            refine a_iload C dX10_puts_78 rfl ?_
            refine a_aload_n C dX10_puts_80 rfl ?_
            refine a_get (ci := 11) (i := 11) (v := .ref (ad 51)) C iw_X10 rfl (by decide) rfl fl_X10_40 rfl rfl dX10_puts_81 ?_
            refine a_iload_n C dX10_puts_84 rfl ?_
            refine a_iald (o := 51) (N := 4) b C dX10_puts_85 rfl (by omega) (by omega) (by decide) ?_
            refine a_top (w := ii_v (g5 51 b)) rfl ?_
            refine a_top (w := ii_v ((S.length : Nat) : Int)) (congrArg (fun q => ii_v q) ((congrFun (hfrg5 51 (by decide) (by decide)) _).trans hc)) ?_
            refine a_icmp_ge (tgt := 120) C dX10_puts_86 rfl (by unfold ii_B; omega) (by unfold ii_B; omega) (fun h86 => ?_) (fun h86 => ?_)
            · skip
              refine a_iinc (L' := [(0, .ref (ad 40)), (1, ii_v ((b : Nat) : Int)), (2, ii_v ((r : Nat) : Int)), (3, ii_v ((i : Nat) : Int)), (4, ii_v ((j : Nat) : Int)), (5, ii_v (((k : Nat) : Int) + 1))]) C dX10_puts_120 rfl (by decide) rfl ?_
              refine a_goto (tgt := 8) C dX10_puts_123 rfl ?_
              exact ih8 (k + 1) (P ++ [(2 * r + 1)]) g5 (by omega) (by omega) hPg5 hfrg5 h40g5 (fun h => by omega) ⟨fun h => (by omega), fun _ => (by have e := hE.1 (by omega); rw [List.drop_eq_nil_of_le (by omega)] at e; simp only [lay_f] at e; (first | rw [if_pos (show k = i by omega)] at e | rw [if_neg (show ¬ k = i by omega)] at e); (first | rw [if_pos (show k = j by omega)] at e | rw [if_neg (show ¬ k = j by omega)] at e); simpa using e)⟩
            · skip
              have hlP : ((P ++ [(2 * r + 1)])).length < 8 := (by have := lay_b (hPl (by omega)) ((if_neg (by omega)).symm) ((if_pos (by omega)).symm); simp only [List.length_append, List.length_cons, List.length_nil]; omega)
              have hbk := hb64 k (by omega)
              refine a_aload_n C dX10_puts_89 rfl ?_
              refine a_get (ci := 11) (i := 35) (v := .ref (ad 75)) C iw_X10 rfl (by decide) rfl fl_X10_102 rfl rfl dX10_puts_90 ?_
              refine a_aload_n C dX10_puts_93 rfl ?_
              refine a_get (ci := 11) (i := 37) (v := ii_v (g5 40 37)) C iw_X10 rfl (by decide) rfl fl_X10_144 rfl rfl dX10_puts_94 ?_
              refine a_top (w := ii_v ((((P ++ [(2 * r + 1)])).length : Nat) : Int)) (congrArg (fun q => ii_v q) hPg5.1) ?_
              refine a_aload_n C dX10_puts_97 rfl ?_
              refine a_get (ci := 11) (i := 12) (v := .ref (ad 52)) C iw_X10 rfl (by decide) rfl fl_X10_43 rfl rfl dX10_puts_98 ?_
              refine a_bipush C dX10_puts_101 (by decide) ?_
              refine a_iload_n C dX10_puts_103 rfl ?_
              refine a_imul C dX10_puts_104 ?_
              refine a_iload C dX10_puts_105 rfl ?_
              refine a_iadd C dX10_puts_107 ?_
              refine a_iald (o := 52) (N := 32) ((8 * b) + k) C dX10_puts_108 rfl (by omega) (by omega) (by decide) ?_
              refine a_top (w := ii_v (g5 52 ((8 * b) + k))) rfl ?_
              refine a_top (w := ii_v ((S.getD k 0 : Nat) : Int)) (congrArg (fun q => ii_v q) ((congrFun (hfrg5 52 (by decide) (by decide)) _).trans (hj k (by omega)))) ?_
              refine a_iast (o := 75) (N := 8) (((P ++ [(2 * r + 1)])).length) C dX10_puts_109 rfl (by omega) (by omega) (by decide) ?_
              obtain ⟨g6, eg6⟩ : ∃ F : Nat → Nat → Int, F = ii_up g5 75 (((P ++ [(2 * r + 1)])).length) (((S.getD k 0) : Nat) : Int) := ⟨_, rfl⟩
              rw [← eg6]
              refine a_aload_n C dX10_puts_110 rfl ?_
              refine a_dup C dX10_puts_111 rfl ?_
              refine a_get (ci := 11) (i := 37) (v := ii_v (g6 40 37)) C iw_X10 rfl (by decide) rfl fl_X10_144 rfl rfl dX10_puts_112 ?_
              refine a_top (w := ii_v ((((P ++ [(2 * r + 1)])).length : Nat) : Int)) (congrArg (fun q => ii_v q) (by rw [eg6, ii_up_o _ _ _ (by decide)]; exact hPg5.1)) ?_
              refine a_iconst C dX10_puts_115 ?_
              refine a_iadd C dX10_puts_116 ?_
              refine a_put (ci := 11) (i := 37) C iw_X10 rfl (by decide) rfl tyX10 tyX10_ok nmX10 rfl rfl fl_X10_144 rfl rfl rfl rfl dX10_puts_117 ?_
              obtain ⟨g7, eg7⟩ : ∃ F : Nat → Nat → Int, F = ii_up g6 40 37 (((((P ++ [(2 * r + 1)])).length : Nat) : Int) + 1) := ⟨_, rfl⟩
              rw [← eg7]
              have hPg7 : tr_I g7 ((P ++ [(2 * r + 1)]) ++ [(S.getD k 0)]) := tr_app hPg5 ((by have := lay_b (hPl (by omega)) ((if_neg (by omega)).symm) ((if_pos (by omega)).symm); simp only [List.length_append, List.length_cons, List.length_nil]; omega)) (by omega) eg6 eg7
              have hfrg7 : ∀ o2, o2 ≠ 40 → o2 ≠ 75 → g7 o2 = f o2 := fun o2 h h2 => by rw [eg7, ii_up_row _ _ h, eg6, ii_up_row _ _ h2]; exact hfrg5 o2 h h2
              have h40g7 : ∀ i, i ≠ 37 → g7 40 i = f 40 i := fun i h => by rw [eg7, ii_up_k _ _ h, eg6, ii_up_o _ _ _ (by decide)]; exact h40g5 i h
              refine a_iinc (L' := [(0, .ref (ad 40)), (1, ii_v ((b : Nat) : Int)), (2, ii_v ((r : Nat) : Int)), (3, ii_v ((i : Nat) : Int)), (4, ii_v ((j : Nat) : Int)), (5, ii_v (((k : Nat) : Int) + 1))]) C dX10_puts_120 rfl (by decide) rfl ?_
              refine a_goto (tgt := 8) C dX10_puts_123 rfl ?_
              exact ih8 (k + 1) ((P ++ [(2 * r + 1)]) ++ [(S.getD k 0)]) g7 (by omega) (by omega) hPg7 hfrg7 h40g7 (fun h => lay_len (hPl (by omega)) ((if_neg (by omega)).symm) ((if_pos (by omega)).symm) (by simp)) ⟨fun _ => (by have e := hE.1 (by omega); rw [ls_drop (by omega)] at e; simp only [lay_f] at e; (first | rw [if_pos (show k = i by omega)] at e | rw [if_neg (show ¬ k = i by omega)] at e); (first | rw [if_pos (show k = j by omega)] at e | rw [if_neg (show ¬ k = j by omega)] at e); simpa using e), fun h => (by omega)⟩
        · skip
          have hlP : (P).length < 8 := (by have := lay_b (i := i) (j := j) (hPl (by omega)) rfl rfl; rw [if_pos (show k = i by omega)] at this; omega)
          refine a_aload_n C dX10_puts_25 rfl ?_
          refine a_get (ci := 11) (i := 35) (v := .ref (ad 75)) C iw_X10 rfl (by decide) rfl fl_X10_102 rfl rfl dX10_puts_26 ?_
          refine a_aload_n C dX10_puts_29 rfl ?_
          refine a_get (ci := 11) (i := 37) (v := ii_v (g 40 37)) C iw_X10 rfl (by decide) rfl fl_X10_144 rfl rfl dX10_puts_30 ?_
          refine a_top (w := ii_v ((P.length : Nat) : Int)) (congrArg (fun q => ii_v q) hP.1) ?_
          refine a_iconst C dX10_puts_33 ?_
          refine a_iload_n C dX10_puts_34 rfl ?_
          refine a_imul C dX10_puts_35 ?_
          refine a_iast (o := 75) (N := 8) P.length C dX10_puts_36 rfl (by omega) (by omega) (by decide) ?_
          obtain ⟨g8, eg8⟩ : ∃ F : Nat → Nat → Int, F = ii_up g 75 P.length (2 * ((r : Nat) : Int)) := ⟨_, rfl⟩
          rw [← eg8]
          refine a_aload_n C dX10_puts_37 rfl ?_
          refine a_dup C dX10_puts_38 rfl ?_
          refine a_get (ci := 11) (i := 37) (v := ii_v (g8 40 37)) C iw_X10 rfl (by decide) rfl fl_X10_144 rfl rfl dX10_puts_39 ?_
          refine a_top (w := ii_v ((P.length : Nat) : Int)) (congrArg (fun q => ii_v q) (by rw [eg8, ii_up_o _ _ _ (by decide)]; exact hP.1)) ?_
          refine a_iconst C dX10_puts_42 ?_
          refine a_iadd C dX10_puts_43 ?_
          refine a_put (ci := 11) (i := 37) C iw_X10 rfl (by decide) rfl tyX10 tyX10_ok nmX10 rfl rfl fl_X10_144 rfl rfl rfl rfl dX10_puts_44 ?_
          obtain ⟨g9, eg9⟩ : ∃ F : Nat → Nat → Int, F = ii_up g8 40 37 (((P.length : Nat) : Int) + 1) := ⟨_, rfl⟩
          rw [← eg9]
          have hPg9 : tr_I g9 (P ++ [(2 * r)]) := tr_app hP ((by have := lay_b (i := i) (j := j) (hPl (by omega)) rfl rfl; rw [if_pos (show k = i by omega)] at this; omega)) (by omega) eg8 eg9
          have hfrg9 : ∀ o2, o2 ≠ 40 → o2 ≠ 75 → g9 o2 = f o2 := fun o2 h h2 => by rw [eg9, ii_up_row _ _ h, eg8, ii_up_row _ _ h2]; exact hfr o2 h h2
          have h40g9 : ∀ i, i ≠ 37 → g9 40 i = f 40 i := fun i h => by rw [eg9, ii_up_k _ _ h, eg8, ii_up_o _ _ _ (by decide)]; exact h40 i h
          refine a_iload C dX10_puts_47 rfl ?_
          refine a_iload C dX10_puts_49 rfl ?_
          refine a_icmp_ne (tgt := 78) C dX10_puts_51 rfl (by unfold ii_B; omega) (by unfold ii_B; omega) (fun h51 => ?_) (fun h51 => ?_)
          · skip
            refine a_iload C dX10_puts_78 rfl ?_
            refine a_aload_n C dX10_puts_80 rfl ?_
            refine a_get (ci := 11) (i := 11) (v := .ref (ad 51)) C iw_X10 rfl (by decide) rfl fl_X10_40 rfl rfl dX10_puts_81 ?_
            refine a_iload_n C dX10_puts_84 rfl ?_
            refine a_iald (o := 51) (N := 4) b C dX10_puts_85 rfl (by omega) (by omega) (by decide) ?_
            refine a_top (w := ii_v (g9 51 b)) rfl ?_
            refine a_top (w := ii_v ((S.length : Nat) : Int)) (congrArg (fun q => ii_v q) ((congrFun (hfrg9 51 (by decide) (by decide)) _).trans hc)) ?_
            refine a_icmp_ge (tgt := 120) C dX10_puts_86 rfl (by unfold ii_B; omega) (by unfold ii_B; omega) (fun h86 => ?_) (fun h86 => ?_)
            · skip
              refine a_iinc (L' := [(0, .ref (ad 40)), (1, ii_v ((b : Nat) : Int)), (2, ii_v ((r : Nat) : Int)), (3, ii_v ((i : Nat) : Int)), (4, ii_v ((j : Nat) : Int)), (5, ii_v (((k : Nat) : Int) + 1))]) C dX10_puts_120 rfl (by decide) rfl ?_
              refine a_goto (tgt := 8) C dX10_puts_123 rfl ?_
              exact ih8 (k + 1) (P ++ [(2 * r)]) g9 (by omega) (by omega) hPg9 hfrg9 h40g9 (fun h => by omega) (by exfalso; omega)
            · skip
              have hlP : ((P ++ [(2 * r)])).length < 8 := (by have := lay_b (hPl (by omega)) ((if_pos (by omega)).symm) ((if_neg (by omega)).symm); simp only [List.length_append, List.length_cons, List.length_nil]; omega)
              have hbk := hb64 k (by omega)
              refine a_aload_n C dX10_puts_89 rfl ?_
              refine a_get (ci := 11) (i := 35) (v := .ref (ad 75)) C iw_X10 rfl (by decide) rfl fl_X10_102 rfl rfl dX10_puts_90 ?_
              refine a_aload_n C dX10_puts_93 rfl ?_
              refine a_get (ci := 11) (i := 37) (v := ii_v (g9 40 37)) C iw_X10 rfl (by decide) rfl fl_X10_144 rfl rfl dX10_puts_94 ?_
              refine a_top (w := ii_v ((((P ++ [(2 * r)])).length : Nat) : Int)) (congrArg (fun q => ii_v q) hPg9.1) ?_
              refine a_aload_n C dX10_puts_97 rfl ?_
              refine a_get (ci := 11) (i := 12) (v := .ref (ad 52)) C iw_X10 rfl (by decide) rfl fl_X10_43 rfl rfl dX10_puts_98 ?_
              refine a_bipush C dX10_puts_101 (by decide) ?_
              refine a_iload_n C dX10_puts_103 rfl ?_
              refine a_imul C dX10_puts_104 ?_
              refine a_iload C dX10_puts_105 rfl ?_
              refine a_iadd C dX10_puts_107 ?_
              refine a_iald (o := 52) (N := 32) ((8 * b) + k) C dX10_puts_108 rfl (by omega) (by omega) (by decide) ?_
              refine a_top (w := ii_v (g9 52 ((8 * b) + k))) rfl ?_
              refine a_top (w := ii_v ((S.getD k 0 : Nat) : Int)) (congrArg (fun q => ii_v q) ((congrFun (hfrg9 52 (by decide) (by decide)) _).trans (hj k (by omega)))) ?_
              refine a_iast (o := 75) (N := 8) (((P ++ [(2 * r)])).length) C dX10_puts_109 rfl (by omega) (by omega) (by decide) ?_
              obtain ⟨g10, eg10⟩ : ∃ F : Nat → Nat → Int, F = ii_up g9 75 (((P ++ [(2 * r)])).length) (((S.getD k 0) : Nat) : Int) := ⟨_, rfl⟩
              rw [← eg10]
              refine a_aload_n C dX10_puts_110 rfl ?_
              refine a_dup C dX10_puts_111 rfl ?_
              refine a_get (ci := 11) (i := 37) (v := ii_v (g10 40 37)) C iw_X10 rfl (by decide) rfl fl_X10_144 rfl rfl dX10_puts_112 ?_
              refine a_top (w := ii_v ((((P ++ [(2 * r)])).length : Nat) : Int)) (congrArg (fun q => ii_v q) (by rw [eg10, ii_up_o _ _ _ (by decide)]; exact hPg9.1)) ?_
              refine a_iconst C dX10_puts_115 ?_
              refine a_iadd C dX10_puts_116 ?_
              refine a_put (ci := 11) (i := 37) C iw_X10 rfl (by decide) rfl tyX10 tyX10_ok nmX10 rfl rfl fl_X10_144 rfl rfl rfl rfl dX10_puts_117 ?_
              obtain ⟨g11, eg11⟩ : ∃ F : Nat → Nat → Int, F = ii_up g10 40 37 (((((P ++ [(2 * r)])).length : Nat) : Int) + 1) := ⟨_, rfl⟩
              rw [← eg11]
              have hPg11 : tr_I g11 ((P ++ [(2 * r)]) ++ [(S.getD k 0)]) := tr_app hPg9 ((by have := lay_b (hPl (by omega)) ((if_pos (by omega)).symm) ((if_neg (by omega)).symm); simp only [List.length_append, List.length_cons, List.length_nil]; omega)) (by omega) eg10 eg11
              have hfrg11 : ∀ o2, o2 ≠ 40 → o2 ≠ 75 → g11 o2 = f o2 := fun o2 h h2 => by rw [eg11, ii_up_row _ _ h, eg10, ii_up_row _ _ h2]; exact hfrg9 o2 h h2
              have h40g11 : ∀ i, i ≠ 37 → g11 40 i = f 40 i := fun i h => by rw [eg11, ii_up_k _ _ h, eg10, ii_up_o _ _ _ (by decide)]; exact h40g9 i h
              refine a_iinc (L' := [(0, .ref (ad 40)), (1, ii_v ((b : Nat) : Int)), (2, ii_v ((r : Nat) : Int)), (3, ii_v ((i : Nat) : Int)), (4, ii_v ((j : Nat) : Int)), (5, ii_v (((k : Nat) : Int) + 1))]) C dX10_puts_120 rfl (by decide) rfl ?_
              refine a_goto (tgt := 8) C dX10_puts_123 rfl ?_
              exact ih8 (k + 1) ((P ++ [(2 * r)]) ++ [(S.getD k 0)]) g11 (by omega) (by omega) hPg11 hfrg11 h40g11 (fun h => lay_len (hPl (by omega)) ((if_pos (by omega)).symm) ((if_neg (by omega)).symm) (by simp)) ⟨fun _ => (by have e := hE.1 (by omega); rw [ls_drop (by omega)] at e; simp only [lay_f] at e; (first | rw [if_pos (show k = i by omega)] at e | rw [if_neg (show ¬ k = i by omega)] at e); (first | rw [if_pos (show k = j by omega)] at e | rw [if_neg (show ¬ k = j by omega)] at e); simpa using e), fun h => (by omega)⟩
          · skip
            have hlP : ((P ++ [(2 * r)])).length < 8 := (by have := lay_b (hPl (by omega)) ((if_pos (by omega)).symm) ((if_pos (by omega)).symm); simp only [List.length_append, List.length_cons, List.length_nil]; omega)
            refine a_aload_n C dX10_puts_54 rfl ?_
            refine a_get (ci := 11) (i := 35) (v := .ref (ad 75)) C iw_X10 rfl (by decide) rfl fl_X10_102 rfl rfl dX10_puts_55 ?_
            refine a_aload_n C dX10_puts_58 rfl ?_
            refine a_get (ci := 11) (i := 37) (v := ii_v (g9 40 37)) C iw_X10 rfl (by decide) rfl fl_X10_144 rfl rfl dX10_puts_59 ?_
            refine a_top (w := ii_v ((((P ++ [(2 * r)])).length : Nat) : Int)) (congrArg (fun q => ii_v q) hPg9.1) ?_
            refine a_iconst C dX10_puts_62 ?_
            refine a_iload_n C dX10_puts_63 rfl ?_
            refine a_imul C dX10_puts_64 ?_
            refine a_iconst C dX10_puts_65 ?_
            refine a_iadd C dX10_puts_66 ?_
            refine a_iast (o := 75) (N := 8) (((P ++ [(2 * r)])).length) C dX10_puts_67 rfl (by omega) (by omega) (by decide) ?_
            obtain ⟨g12, eg12⟩ : ∃ F : Nat → Nat → Int, F = ii_up g9 75 (((P ++ [(2 * r)])).length) ((2 * ((r : Nat) : Int)) + 1) := ⟨_, rfl⟩
            rw [← eg12]
            refine a_aload_n C dX10_puts_68 rfl ?_
            refine a_dup C dX10_puts_69 rfl ?_
            refine a_get (ci := 11) (i := 37) (v := ii_v (g12 40 37)) C iw_X10 rfl (by decide) rfl fl_X10_144 rfl rfl dX10_puts_70 ?_
            refine a_top (w := ii_v ((((P ++ [(2 * r)])).length : Nat) : Int)) (congrArg (fun q => ii_v q) (by rw [eg12, ii_up_o _ _ _ (by decide)]; exact hPg9.1)) ?_
            refine a_iconst C dX10_puts_73 ?_
            refine a_iadd C dX10_puts_74 ?_
            refine a_put (ci := 11) (i := 37) C iw_X10 rfl (by decide) rfl tyX10 tyX10_ok nmX10 rfl rfl fl_X10_144 rfl rfl rfl rfl dX10_puts_75 ?_
            obtain ⟨g13, eg13⟩ : ∃ F : Nat → Nat → Int, F = ii_up g12 40 37 (((((P ++ [(2 * r)])).length : Nat) : Int) + 1) := ⟨_, rfl⟩
            rw [← eg13]
            have hPg13 : tr_I g13 ((P ++ [(2 * r)]) ++ [(2 * r + 1)]) := tr_app hPg9 ((by have := lay_b (hPl (by omega)) ((if_pos (by omega)).symm) ((if_pos (by omega)).symm); simp only [List.length_append, List.length_cons, List.length_nil]; omega)) (by omega) eg12 eg13
            have hfrg13 : ∀ o2, o2 ≠ 40 → o2 ≠ 75 → g13 o2 = f o2 := fun o2 h h2 => by rw [eg13, ii_up_row _ _ h, eg12, ii_up_row _ _ h2]; exact hfrg9 o2 h h2
            have h40g13 : ∀ i, i ≠ 37 → g13 40 i = f 40 i := fun i h => by rw [eg13, ii_up_k _ _ h, eg12, ii_up_o _ _ _ (by decide)]; exact h40g9 i h
            refine a_iload C dX10_puts_78 rfl ?_
            refine a_aload_n C dX10_puts_80 rfl ?_
            refine a_get (ci := 11) (i := 11) (v := .ref (ad 51)) C iw_X10 rfl (by decide) rfl fl_X10_40 rfl rfl dX10_puts_81 ?_
            refine a_iload_n C dX10_puts_84 rfl ?_
            refine a_iald (o := 51) (N := 4) b C dX10_puts_85 rfl (by omega) (by omega) (by decide) ?_
            refine a_top (w := ii_v (g13 51 b)) rfl ?_
            refine a_top (w := ii_v ((S.length : Nat) : Int)) (congrArg (fun q => ii_v q) ((congrFun (hfrg13 51 (by decide) (by decide)) _).trans hc)) ?_
            refine a_icmp_ge (tgt := 120) C dX10_puts_86 rfl (by unfold ii_B; omega) (by unfold ii_B; omega) (fun h86 => ?_) (fun h86 => ?_)
            · skip
              refine a_iinc (L' := [(0, .ref (ad 40)), (1, ii_v ((b : Nat) : Int)), (2, ii_v ((r : Nat) : Int)), (3, ii_v ((i : Nat) : Int)), (4, ii_v ((j : Nat) : Int)), (5, ii_v (((k : Nat) : Int) + 1))]) C dX10_puts_120 rfl (by decide) rfl ?_
              refine a_goto (tgt := 8) C dX10_puts_123 rfl ?_
              exact ih8 (k + 1) ((P ++ [(2 * r)]) ++ [(2 * r + 1)]) g13 (by omega) (by omega) hPg13 hfrg13 h40g13 (fun h => by omega) ⟨fun h => (by omega), fun _ => (by have e := hE.1 (by omega); rw [List.drop_eq_nil_of_le (by omega)] at e; simp only [lay_f] at e; (first | rw [if_pos (show k = i by omega)] at e | rw [if_neg (show ¬ k = i by omega)] at e); (first | rw [if_pos (show k = j by omega)] at e | rw [if_neg (show ¬ k = j by omega)] at e); simpa using e)⟩
            · skip
              have hlP : (((P ++ [(2 * r)]) ++ [(2 * r + 1)])).length < 8 := (by have := lay_b (hPl (by omega)) ((if_pos (by omega)).symm) ((if_pos (by omega)).symm); simp only [List.length_append, List.length_cons, List.length_nil]; omega)
              have hbk := hb64 k (by omega)
              refine a_aload_n C dX10_puts_89 rfl ?_
              refine a_get (ci := 11) (i := 35) (v := .ref (ad 75)) C iw_X10 rfl (by decide) rfl fl_X10_102 rfl rfl dX10_puts_90 ?_
              refine a_aload_n C dX10_puts_93 rfl ?_
              refine a_get (ci := 11) (i := 37) (v := ii_v (g13 40 37)) C iw_X10 rfl (by decide) rfl fl_X10_144 rfl rfl dX10_puts_94 ?_
              refine a_top (w := ii_v (((((P ++ [(2 * r)]) ++ [(2 * r + 1)])).length : Nat) : Int)) (congrArg (fun q => ii_v q) hPg13.1) ?_
              refine a_aload_n C dX10_puts_97 rfl ?_
              refine a_get (ci := 11) (i := 12) (v := .ref (ad 52)) C iw_X10 rfl (by decide) rfl fl_X10_43 rfl rfl dX10_puts_98 ?_
              refine a_bipush C dX10_puts_101 (by decide) ?_
              refine a_iload_n C dX10_puts_103 rfl ?_
              refine a_imul C dX10_puts_104 ?_
              refine a_iload C dX10_puts_105 rfl ?_
              refine a_iadd C dX10_puts_107 ?_
              refine a_iald (o := 52) (N := 32) ((8 * b) + k) C dX10_puts_108 rfl (by omega) (by omega) (by decide) ?_
              refine a_top (w := ii_v (g13 52 ((8 * b) + k))) rfl ?_
              refine a_top (w := ii_v ((S.getD k 0 : Nat) : Int)) (congrArg (fun q => ii_v q) ((congrFun (hfrg13 52 (by decide) (by decide)) _).trans (hj k (by omega)))) ?_
              refine a_iast (o := 75) (N := 8) ((((P ++ [(2 * r)]) ++ [(2 * r + 1)])).length) C dX10_puts_109 rfl (by omega) (by omega) (by decide) ?_
              obtain ⟨g14, eg14⟩ : ∃ F : Nat → Nat → Int, F = ii_up g13 75 ((((P ++ [(2 * r)]) ++ [(2 * r + 1)])).length) (((S.getD k 0) : Nat) : Int) := ⟨_, rfl⟩
              rw [← eg14]
              refine a_aload_n C dX10_puts_110 rfl ?_
              refine a_dup C dX10_puts_111 rfl ?_
              refine a_get (ci := 11) (i := 37) (v := ii_v (g14 40 37)) C iw_X10 rfl (by decide) rfl fl_X10_144 rfl rfl dX10_puts_112 ?_
              refine a_top (w := ii_v (((((P ++ [(2 * r)]) ++ [(2 * r + 1)])).length : Nat) : Int)) (congrArg (fun q => ii_v q) (by rw [eg14, ii_up_o _ _ _ (by decide)]; exact hPg13.1)) ?_
              refine a_iconst C dX10_puts_115 ?_
              refine a_iadd C dX10_puts_116 ?_
              refine a_put (ci := 11) (i := 37) C iw_X10 rfl (by decide) rfl tyX10 tyX10_ok nmX10 rfl rfl fl_X10_144 rfl rfl rfl rfl dX10_puts_117 ?_
              obtain ⟨g15, eg15⟩ : ∃ F : Nat → Nat → Int, F = ii_up g14 40 37 ((((((P ++ [(2 * r)]) ++ [(2 * r + 1)])).length : Nat) : Int) + 1) := ⟨_, rfl⟩
              rw [← eg15]
              have hPg15 : tr_I g15 (((P ++ [(2 * r)]) ++ [(2 * r + 1)]) ++ [(S.getD k 0)]) := tr_app hPg13 ((by have := lay_b (hPl (by omega)) ((if_pos (by omega)).symm) ((if_pos (by omega)).symm); simp only [List.length_append, List.length_cons, List.length_nil]; omega)) (by omega) eg14 eg15
              have hfrg15 : ∀ o2, o2 ≠ 40 → o2 ≠ 75 → g15 o2 = f o2 := fun o2 h h2 => by rw [eg15, ii_up_row _ _ h, eg14, ii_up_row _ _ h2]; exact hfrg13 o2 h h2
              have h40g15 : ∀ i, i ≠ 37 → g15 40 i = f 40 i := fun i h => by rw [eg15, ii_up_k _ _ h, eg14, ii_up_o _ _ _ (by decide)]; exact h40g13 i h
              refine a_iinc (L' := [(0, .ref (ad 40)), (1, ii_v ((b : Nat) : Int)), (2, ii_v ((r : Nat) : Int)), (3, ii_v ((i : Nat) : Int)), (4, ii_v ((j : Nat) : Int)), (5, ii_v (((k : Nat) : Int) + 1))]) C dX10_puts_120 rfl (by decide) rfl ?_
              refine a_goto (tgt := 8) C dX10_puts_123 rfl ?_
              exact ih8 (k + 1) (((P ++ [(2 * r)]) ++ [(2 * r + 1)]) ++ [(S.getD k 0)]) g15 (by omega) (by omega) hPg15 hfrg15 h40g15 (fun h => lay_len (hPl (by omega)) ((if_pos (by omega)).symm) ((if_pos (by omega)).symm) (by simp)) ⟨fun _ => (by have e := hE.1 (by omega); rw [ls_drop (by omega)] at e; simp only [lay_f] at e; (first | rw [if_pos (show k = i by omega)] at e | rw [if_neg (show ¬ k = i by omega)] at e); (first | rw [if_pos (show k = j by omega)] at e | rw [if_neg (show ¬ k = j by omega)] at e); simpa using e), fun h => (by omega)⟩
  exact loop8 (_ + 1) 0 ([] : List Nat) g1 (Nat.lt_succ_self _) (Nat.zero_le _) (by rw [eg1]; exact ⟨ii_up_s _ _ _ _, Nat.zero_le _, fun j h => absurd h (Nat.not_lt_zero j), fun j h => absurd h (Nat.not_lt_zero j)⟩) (fun o2 h h2 => by rw [eg1]; exact ii_up_row _ _ h) (fun i h => by rw [eg1]; exact ii_up_k _ _ h) (fun _ => rfl) ⟨fun _ => rfl, fun h => by omega⟩
set_option maxRecDepth 20000 in
set_option maxHeartbeats 2000000 in
theorem m_plans {l : Launch} {E : ab_E} {base : Nat} (hl : l.stackTraces = false) {ad : Nat → Nat} (f : Nat → Nat → Int) (w : Nat × Nat × Int64 × UInt64) {v : Nat → Nat → Int} (hv : pj_C f v) (n : Nat) (hn : f 40 30 = (n : Int)) (hn30 : n ≤ 30) (hrid : ∀ r, r < n → (0 ≤ f 57 r ∧ f 57 r ≤ 6) ∧ st_ok (f 63 r) ∧ -1 ≤ f 60 r ∧ f 60 r ≤ 10) (nb : Nat) (hnb : f 40 29 = (nb : Int)) (hnb4 : nb ≤ 4) {TS : Nat → List Nat} (hT : ∀ b, b < nb → pk_B f b ∧ mt_I f b (TS b) ∧ (TS b).length ≤ 6 ∧ ∀ j, j < (TS b).length → (TS b).getD j 0 / 2 ≤ 30) (hnow : 0 ≤ f 40 32 ∧ f 40 32 ≤ 100000) (r : Nat) (hrn : r ≤ 30) (c4 c5 : Int) : ab_M l E base yX10_plans cX10_plans 8 none 6 0 0 [.ref (ad 40), ii_v ((r : Nat) : Int)] ab_x4 ad (f, w) (ab_F ad w (fun ov g => ov = none ∧ pm_at g (pa_b v (mB f n) TS r (f 40 32) nb (-1, c4, c5, 1000000, 1)) ∧ (∀ o2, o2 ≠ 40 → o2 ≠ 75 → o2 ≠ 76 → g o2 = f o2) ∧ ∀ i, i < 37 ∨ 42 < i → g 40 i = f 40 i)) := by
  obtain ⟨Post, hPost⟩ : ∃ P : ab_P, P = (ab_F ad w (fun ov g => ov = none ∧ pm_at g (pa_b v (mB f n) TS r (f 40 32) nb (-1, c4, c5, 1000000, 1)) ∧ (∀ o2, o2 ≠ 40 → o2 ≠ 75 → o2 ≠ 76 → g o2 = f o2) ∧ ∀ i, i < 37 ∨ 42 < i → g 40 i = f 40 i)) := ⟨_, rfl⟩
  rw [← hPost]
  refine ab_of RX10 [(0, .ref (ad 40)), (1, ii_v ((r : Nat) : Int))] hl (by decide) rfl (Nat.le_of_ble_eq_true rfl) rfl ?_
  intro p e s m args below meth c C T0 hnm
  refine a_aload_n C dX10_plans_0 rfl ?_
  refine a_iconst C dX10_plans_1 ?_
  refine a_put (ci := 11) (i := 38) C iw_X10 rfl (by decide) rfl tyX10 tyX10_ok nmX10 rfl rfl fl_X10_173 rfl rfl rfl rfl dX10_plans_2 ?_
  obtain ⟨g1, eg1⟩ : ∃ F : Nat → Nat → Int, F = ii_up f 40 38 (-1) := ⟨_, rfl⟩
  rw [← eg1]
  refine a_aload_n C dX10_plans_5 rfl ?_
  refine a_iconst C dX10_plans_6 ?_
  refine a_put (ci := 11) (i := 42) C iw_X10 rfl (by decide) rfl tyX10 tyX10_ok nmX10 rfl rfl fl_X10_176 rfl rfl rfl rfl dX10_plans_7 ?_
  obtain ⟨g2, eg2⟩ : ∃ F : Nat → Nat → Int, F = ii_up g1 40 42 1 := ⟨_, rfl⟩
  rw [← eg2]
  refine a_iconst C dX10_plans_10 ?_
  refine a_istore_n (L' := [(0, .ref (ad 40)), (1, ii_v ((r : Nat) : Int)), (2, ii_v 0)]) C dX10_plans_11 (by decide) rfl ?_
  have loop12 : ∀ (NN12 : Nat) (b : Nat) (g : Nat → Nat → Int), nb - b < NN12 → (b ≤ nb) → (∀ o2, o2 ≠ 40 → o2 ≠ 75 → o2 ≠ 76 → g o2 = f o2) → (∀ i, i < 37 ∨ 42 < i → g 40 i = f 40 i) → (pm_at g (pa_b v (mB f n) TS r (f 40 32) b (-1, c4, c5, 1000000, 1))) → (pm_bd g) → ab_W p l e (ab_rm 6 0 0) s m args below meth c E base 8 (ab_Q below E base Post args s 0 0) ab_x4 ad (g, w) 0 0 12 [(0, .ref (ad 40)), (1, ii_v ((r : Nat) : Int)), (2, ii_v ((b : Nat) : Int))] [] := by
    intro NN12
    induction NN12 with
    | zero => intro b g hNN; exact absurd hNN (Nat.not_lt_zero _)
    | succ NN12 ih12 =>
      intro b g hNN hbn1 hfrg h40g hst hbd
      refine a_iload_n C dX10_plans_12 rfl ?_
      refine a_aload_n C dX10_plans_13 rfl ?_
      refine a_get (ci := 11) (i := 29) (v := ii_v (g 40 29)) C iw_X10 rfl (by decide) rfl fl_X10_117 rfl rfl dX10_plans_14 ?_
      refine a_top (w := ii_v ((nb : Nat) : Int)) (congrArg (fun q => ii_v q) ((h40g 29 (by decide)).trans hnb)) ?_
      refine a_icmp_ge (tgt := 159) C dX10_plans_17 rfl (by unfold ii_B; omega) (by unfold ii_B; omega) (fun h17 => ?_) (fun h17 => ?_)
      · skip
        refine a_vret C ?_ (by decide) (by decide) dX10_plans_159
        rw [hPost]
        refine ab_F_of ⟨rfl, ?_, hfrg, h40g⟩
        rw [show nb = b by omega]
        exact hst
      · skip
        have hbn : b < nb := by omega
        obtain ⟨hBb, hmtb, hl6, hq⟩ := hT b hbn
        obtain ⟨hB1, hB6, hB7, hB4, hB5, hB8⟩ := id hBb
        have hb4 : b < 4 := by omega
        have hvpg : pj_C g v := pj_same hv (fun o2 h => hfrg o2 (by omega) (by omega) (by omega))
        have r41g : g 41 = f 41 := hfrg 41 (by decide) (by decide) (by decide)
        have r43g : g 43 = f 43 := hfrg 43 (by decide) (by decide) (by decide)
        have r44g : g 44 = f 44 := hfrg 44 (by decide) (by decide) (by decide)
        have r45g : g 45 = f 45 := hfrg 45 (by decide) (by decide) (by decide)
        have r46g : g 46 = f 46 := hfrg 46 (by decide) (by decide) (by decide)
        have r47g : g 47 = f 47 := hfrg 47 (by decide) (by decide) (by decide)
        have rtg : g 40 32 = f 40 32 := h40g 32 (by decide)
        have rag : ab_n g b n = ab_n f b n := ab_same (hfrg 57 (by decide) (by decide) (by decide)) (hfrg 63 (by decide) (by decide) (by decide)) (hfrg 60 (by decide) (by decide) (by decide)) b n
        have hBpg : pk_B g b := by unfold pk_B; rw [r41g, r43g, r44g, r45g, r46g, r47g]; exact hBb
        have hmtg : mt_I g b (TS b) := mt_same hmtb (hfrg 51 (by decide) (by decide) (by decide)) (hfrg 52 (by decide) (by decide) (by decide))
        refine a_aload_n C dX10_plans_20 rfl ?_
        refine a_iload_n C dX10_plans_21 rfl ?_
        refine a_callV (o := 40) (As := [ii_v ((b : Nat) : Int)]) C (m_lengthOf hl g w b hb4 hvpg hBpg hmtg hl6 hq (by rw [rtg]; exact hnow)) co_X10_lengthOf in_X10 ml_X10_179 im_X10_lengthOf se_X10_lengthOf rfl rfl ar_X10_lengthOf ⟨by decide, by decide, by decide, by decide⟩ rfl (Nat.le_of_ble_eq_true rfl) dX10_plans_22 (a_dF ?_) a_nF
        intro vg3 g3 hvg3
        obtain ⟨hr0, hsg3, -, hfg3, hig3⟩ := hvg3
        rw [r44g, r45g, r46g, r47g] at hr0
        subst hr0
        have hfrg3 : ∀ o2, o2 ≠ 40 → o2 ≠ 75 → o2 ≠ 76 → g3 o2 = f o2 := fun o2 h1 h2 h3 => (hfg3 o2 h1 h2 h3).trans (hfrg o2 h1 h2 h3)
        have h40g3 : ∀ i, i < 37 ∨ 42 < i → g3 40 i = f 40 i := fun i hi => (hig3 i (by omega)).trans (h40g i hi)
        have hstg3 : pm_at g3 (pa_b v (mB f n) TS r (f 40 32) b (-1, c4, c5, 1000000, 1)) := pm_same hst (fun i h => hig3 i (by omega))
        have hbdg3 : pm_bd g3 := pm_bds hbd (fun i h => hig3 i (by omega))
        have hL0 := len_b hB6 hB7 (fun q h => (hv.1 q h).2.2) (TS b) (f 44 b) (f 45 b) hq hB4 hB5
        refine a_istore_n (L' := [(0, .ref (ad 40)), (1, ii_v ((r : Nat) : Int)), (2, ii_v ((b : Nat) : Int)), (3, ii_v (pl_len v (f 46 b) (f 47 b) (TS b) (f 44 b) (f 45 b)))]) C dX10_plans_25 (by decide) rfl ?_
        refine a_iconst C dX10_plans_26 ?_
        refine a_istore (L' := [(0, .ref (ad 40)), (1, ii_v ((r : Nat) : Int)), (2, ii_v ((b : Nat) : Int)), (3, ii_v (pl_len v (f 46 b) (f 47 b) (TS b) (f 44 b) (f 45 b))), (4, ii_v 0)]) C dX10_plans_27 (by decide) rfl ?_
        have loop29 : ∀ (NN29 : Nat) (i : Nat) (g : Nat → Nat → Int), (TS b).length + 1 - i < NN29 → (i ≤ (TS b).length + 1) → (∀ o2, o2 ≠ 40 → o2 ≠ 75 → o2 ≠ 76 → g o2 = f o2) → (∀ i, i < 37 ∨ 42 < i → g 40 i = f 40 i) → (pm_at g (pa_i v (mB f n b) (TS b) r (f 40 32) b i (pa_b v (mB f n) TS r (f 40 32) b (-1, c4, c5, 1000000, 1)))) → (pm_bd g) → ab_W p l e (ab_rm 6 0 0) s m args below meth c E base 8 (ab_Q below E base Post args s 0 0) ab_x4 ad (g, w) 0 0 29 [(0, .ref (ad 40)), (1, ii_v ((r : Nat) : Int)), (2, ii_v ((b : Nat) : Int)), (3, ii_v (pl_len v (f 46 b) (f 47 b) (TS b) (f 44 b) (f 45 b))), (4, ii_v ((i : Nat) : Int))] [] := by
          intro NN29
          induction NN29 with
          | zero => intro i g hNN; exact absurd hNN (Nat.not_lt_zero _)
          | succ NN29 ih29 =>
            intro i g hNN hin hfrg h40g hst hbd
            have hvpg : pj_C g v := pj_same hv (fun o2 h => hfrg o2 (by omega) (by omega) (by omega))
            have r41g : g 41 = f 41 := hfrg 41 (by decide) (by decide) (by decide)
            have r43g : g 43 = f 43 := hfrg 43 (by decide) (by decide) (by decide)
            have r44g : g 44 = f 44 := hfrg 44 (by decide) (by decide) (by decide)
            have r45g : g 45 = f 45 := hfrg 45 (by decide) (by decide) (by decide)
            have r46g : g 46 = f 46 := hfrg 46 (by decide) (by decide) (by decide)
            have r47g : g 47 = f 47 := hfrg 47 (by decide) (by decide) (by decide)
            have rtg : g 40 32 = f 40 32 := h40g 32 (by decide)
            have rag : ab_n g b n = ab_n f b n := ab_same (hfrg 57 (by decide) (by decide) (by decide)) (hfrg 63 (by decide) (by decide) (by decide)) (hfrg 60 (by decide) (by decide) (by decide)) b n
            have hBpg : pk_B g b := by unfold pk_B; rw [r41g, r43g, r44g, r45g, r46g, r47g]; exact hBb
            have hmtg : mt_I g b (TS b) := mt_same hmtb (hfrg 51 (by decide) (by decide) (by decide)) (hfrg 52 (by decide) (by decide) (by decide))
            refine a_iload C dX10_plans_29 rfl ?_
            refine a_aload_n C dX10_plans_31 rfl ?_
            refine a_get (ci := 11) (i := 11) (v := .ref (ad 51)) C iw_X10 rfl (by decide) rfl fl_X10_40 rfl rfl dX10_plans_32 ?_
            refine a_iload_n C dX10_plans_35 rfl ?_
            refine a_iald (o := 51) (N := 4) b C dX10_plans_36 rfl (by omega) (by omega) (by decide) ?_
            refine a_top (w := ii_v (g 51 b)) rfl ?_
            refine a_top (w := ii_v (((TS b).length : Nat) : Int)) (congrArg (fun q => ii_v q) hmtg.1) ?_
            refine a_icmp_gt (tgt := 153) C dX10_plans_37 rfl (by unfold ii_B; omega) (by unfold ii_B; omega) (fun h37 => ?_) (fun h37 => ?_)
            · skip
              refine a_iinc (L' := [(0, .ref (ad 40)), (1, ii_v ((r : Nat) : Int)), (2, ii_v (((b : Nat) : Int) + 1)), (3, ii_v (pl_len v (f 46 b) (f 47 b) (TS b) (f 44 b) (f 45 b))), (4, ii_v ((i : Nat) : Int))]) C dX10_plans_153 rfl (by decide) rfl ?_
              refine a_goto (tgt := 12) C dX10_plans_156 rfl ?_
              refine a_pick [0, 1, 2] (L2 := [(0, .ref (ad 40)), (1, ii_v ((r : Nat) : Int)), (2, ii_v (((b : Nat) : Int) + 1))]) rfl ?_
              exact ih12 (b + 1) g (by omega) (by omega) hfrg h40g (by rw [show i = (TS b).length + 1 by omega] at hst; exact hst) hbd
            · skip
              refine a_iload C dX10_plans_40 rfl ?_
              refine a_istore (L' := [(0, .ref (ad 40)), (1, ii_v ((r : Nat) : Int)), (2, ii_v ((b : Nat) : Int)), (3, ii_v (pl_len v (f 46 b) (f 47 b) (TS b) (f 44 b) (f 45 b))), (4, ii_v ((i : Nat) : Int)), (5, ii_v ((i : Nat) : Int))]) C dX10_plans_42 (by decide) rfl ?_
              have loop44 : ∀ (NN44 : Nat) (d : Nat) (g : Nat → Nat → Int), (TS b).length + 1 - i - d < NN44 → (i + d ≤ (TS b).length + 1) → (∀ o2, o2 ≠ 40 → o2 ≠ 75 → o2 ≠ 76 → g o2 = f o2) → (∀ i, i < 37 ∨ 42 < i → g 40 i = f 40 i) → (pm_at g (pa_j v (mB f n b) (TS b) r (f 40 32) b i d (pa_i v (mB f n b) (TS b) r (f 40 32) b i (pa_b v (mB f n) TS r (f 40 32) b (-1, c4, c5, 1000000, 1))))) → (pm_bd g) → ab_W p l e (ab_rm 6 0 0) s m args below meth c E base 8 (ab_Q below E base Post args s 0 0) ab_x4 ad (g, w) 0 0 44 [(0, .ref (ad 40)), (1, ii_v ((r : Nat) : Int)), (2, ii_v ((b : Nat) : Int)), (3, ii_v (pl_len v (f 46 b) (f 47 b) (TS b) (f 44 b) (f 45 b))), (4, ii_v ((i : Nat) : Int)), (5, ii_v ((i + d : Nat) : Int))] [] := by
                intro NN44
                induction NN44 with
                | zero => intro d g hNN; exact absurd hNN (Nat.not_lt_zero _)
                | succ NN44 ih44 =>
                  intro d g hNN hdn hfrg h40g hst hbd
                  have hvpg : pj_C g v := pj_same hv (fun o2 h => hfrg o2 (by omega) (by omega) (by omega))
                  have r41g : g 41 = f 41 := hfrg 41 (by decide) (by decide) (by decide)
                  have r43g : g 43 = f 43 := hfrg 43 (by decide) (by decide) (by decide)
                  have r44g : g 44 = f 44 := hfrg 44 (by decide) (by decide) (by decide)
                  have r45g : g 45 = f 45 := hfrg 45 (by decide) (by decide) (by decide)
                  have r46g : g 46 = f 46 := hfrg 46 (by decide) (by decide) (by decide)
                  have r47g : g 47 = f 47 := hfrg 47 (by decide) (by decide) (by decide)
                  have rtg : g 40 32 = f 40 32 := h40g 32 (by decide)
                  have rag : ab_n g b n = ab_n f b n := ab_same (hfrg 57 (by decide) (by decide) (by decide)) (hfrg 63 (by decide) (by decide) (by decide)) (hfrg 60 (by decide) (by decide) (by decide)) b n
                  have hBpg : pk_B g b := by unfold pk_B; rw [r41g, r43g, r44g, r45g, r46g, r47g]; exact hBb
                  have hmtg : mt_I g b (TS b) := mt_same hmtb (hfrg 51 (by decide) (by decide) (by decide)) (hfrg 52 (by decide) (by decide) (by decide))
                  refine a_iload C dX10_plans_44 rfl ?_
                  refine a_aload_n C dX10_plans_46 rfl ?_
                  refine a_get (ci := 11) (i := 11) (v := .ref (ad 51)) C iw_X10 rfl (by decide) rfl fl_X10_40 rfl rfl dX10_plans_47 ?_
                  refine a_iload_n C dX10_plans_50 rfl ?_
                  refine a_iald (o := 51) (N := 4) b C dX10_plans_51 rfl (by omega) (by omega) (by decide) ?_
                  refine a_top (w := ii_v (g 51 b)) rfl ?_
                  refine a_top (w := ii_v (((TS b).length : Nat) : Int)) (congrArg (fun q => ii_v q) hmtg.1) ?_
                  refine a_icmp_gt (tgt := 147) C dX10_plans_52 rfl (by unfold ii_B; omega) (by unfold ii_B; omega) (fun h52 => ?_) (fun h52 => ?_)
                  · skip
                    refine a_iinc (L' := [(0, .ref (ad 40)), (1, ii_v ((r : Nat) : Int)), (2, ii_v ((b : Nat) : Int)), (3, ii_v (pl_len v (f 46 b) (f 47 b) (TS b) (f 44 b) (f 45 b))), (4, ii_v (((i : Nat) : Int) + 1)), (5, ii_v ((i + d : Nat) : Int))]) C dX10_plans_147 rfl (by decide) rfl ?_
                    refine a_goto (tgt := 29) C dX10_plans_150 rfl ?_
                    refine a_pick [0, 1, 2, 3, 4] (L2 := [(0, .ref (ad 40)), (1, ii_v ((r : Nat) : Int)), (2, ii_v ((b : Nat) : Int)), (3, ii_v (pl_len v (f 46 b) (f 47 b) (TS b) (f 44 b) (f 45 b))), (4, ii_v (((i : Nat) : Int) + 1))]) rfl ?_
                    exact ih29 (i + 1) g (by omega) (by omega) hfrg h40g (by rw [show d = (TS b).length + 1 - i by omega] at hst; exact hst) hbd
                  · skip
                    refine a_aload_n C dX10_plans_55 rfl ?_
                    refine a_iload_n C dX10_plans_56 rfl ?_
                    refine a_iload_n C dX10_plans_57 rfl ?_
                    refine a_iload C dX10_plans_58 rfl ?_
                    refine a_iload C dX10_plans_60 rfl ?_
                    refine a_callV (o := 40) (As := [ii_v ((b : Nat) : Int), ii_v ((r : Nat) : Int), ii_v ((i : Nat) : Int), ii_v ((i + d : Nat) : Int)]) C (m_puts hl g w b hb4 hmtg hl6 r i (i + d) (by omega) (by omega) (by omega)) co_X10_puts in_X10 ml_X10_182 im_X10_puts se_X10_puts rfl rfl ar_X10_puts ⟨by decide, by decide, by decide, by decide⟩ rfl (Nat.le_of_ble_eq_true rfl) dX10_plans_62 (a_dF ?_) a_nF
                    intro vg4 g4 hvg4
                    obtain ⟨rfl, hsg4, hfg4, hig4⟩ := hvg4
                    have hfrg4 : ∀ o2, o2 ≠ 40 → o2 ≠ 75 → o2 ≠ 76 → g4 o2 = f o2 := fun o2 h1 h2 h3 => (hfg4 o2 h1 h2).trans (hfrg o2 h1 h2 h3)
                    have h40g4 : ∀ i, i < 37 ∨ 42 < i → g4 40 i = f 40 i := fun i hi => (hig4 i (by omega)).trans (h40g i hi)
                    have hvpg4 : pj_C g4 v := pj_same hv (fun o2 h => hfrg4 o2 (by omega) (by omega) (by omega))
                    have r41g4 : g4 41 = f 41 := hfrg4 41 (by decide) (by decide) (by decide)
                    have r43g4 : g4 43 = f 43 := hfrg4 43 (by decide) (by decide) (by decide)
                    have r44g4 : g4 44 = f 44 := hfrg4 44 (by decide) (by decide) (by decide)
                    have r45g4 : g4 45 = f 45 := hfrg4 45 (by decide) (by decide) (by decide)
                    have r46g4 : g4 46 = f 46 := hfrg4 46 (by decide) (by decide) (by decide)
                    have r47g4 : g4 47 = f 47 := hfrg4 47 (by decide) (by decide) (by decide)
                    have rtg4 : g4 40 32 = f 40 32 := h40g4 32 (by decide)
                    have rag4 : ab_n g4 b n = ab_n f b n := ab_same (hfrg4 57 (by decide) (by decide) (by decide)) (hfrg4 63 (by decide) (by decide) (by decide)) (hfrg4 60 (by decide) (by decide) (by decide)) b n
                    have hBpg4 : pk_B g4 b := by unfold pk_B; rw [r41g4, r43g4, r44g4, r45g4, r46g4, r47g4]; exact hBb
                    have hmtg4 : mt_I g4 b (TS b) := mt_same hmtb (hfrg4 51 (by decide) (by decide) (by decide)) (hfrg4 52 (by decide) (by decide) (by decide))
                    have hqP : ∀ j, j < (lay_f r i (i + d) (TS b) 0).length → (lay_f r i (i + d) (TS b) 0).getD j 0 / 2 ≤ 30 := lay_ok hrn hq
                    have hlP : (lay_f r i (i + d) (TS b) 0).length = (TS b).length + 2 := lay_length (by omega) (by omega) 0 (by omega)
                    have hL1 := len_b hB6 hB7 (fun q h => (hv.1 q h).2.2) (lay_f r i (i + d) (TS b) 0) (f 44 b) (f 45 b) hqP hB4 hB5
                    have hFb := pl_fault_b v (lay_f r i (i + d) (TS b) 0) (f 44 b) (f 45 b) (f 40 32) (ab_n f b n) (f 41 b) (f 46 b) (f 47 b) (f 43 b)
                    refine a_aload_n C dX10_plans_65 rfl ?_
                    refine a_iload_n C dX10_plans_66 rfl ?_
                    refine a_callV (o := 40) (As := [ii_v ((b : Nat) : Int)]) C (m_fault hl g4 w b hb4 hvpg4 hBpg4 hsg4 hqP (by rw [rtg4]; exact hnow) n (by rw [h40g4 30 (by decide)]; exact hn) hn30 (fun r hr => by rw [hfrg4 57 (by decide) (by decide) (by decide), hfrg4 63 (by decide) (by decide) (by decide), hfrg4 60 (by decide) (by decide) (by decide)]; exact hrid r hr)) co_X10_fault in_X10 ml_X10_186 im_X10_fault se_X10_fault rfl rfl ar_X10_fault ⟨by decide, by decide, by decide, by decide⟩ rfl (Nat.le_of_ble_eq_true rfl) dX10_plans_67 (a_dF ?_) a_nF
                    intro vg5 g5 hvg5
                    obtain ⟨hr0, -, hfg5⟩ := hvg5
                    rw [r41g4, r43g4, r44g4, r45g4, r46g4, r47g4, rtg4, rag4] at hr0
                    subst hr0
                    have hfrg5 : ∀ o2, o2 ≠ 40 → o2 ≠ 75 → o2 ≠ 76 → g5 o2 = f o2 := fun o2 h1 h2 h3 => (hfg5 o2 h3).trans (hfrg4 o2 h1 h2 h3)
                    have h40g5 : ∀ i, i < 37 ∨ 42 < i → g5 40 i = f 40 i := fun i hi => (congrFun (hfg5 40 (by decide)) i).trans (h40g4 i hi)
                    have hgg5 : ∀ i, i ≠ 37 → g5 40 i = g 40 i := fun i hi => (congrFun (hfg5 40 (by decide)) i).trans (hig4 i hi)
                    have hsg5 : tr_I g5 (lay_f r i (i + d) (TS b) 0) := tr_same hsg4 (hfg5 40 (by decide)) (hfg5 75 (by decide))
                    have hvpg5 : pj_C g5 v := pj_same hv (fun o2 h => hfrg5 o2 (by omega) (by omega) (by omega))
                    have r41g5 : g5 41 = f 41 := hfrg5 41 (by decide) (by decide) (by decide)
                    have r43g5 : g5 43 = f 43 := hfrg5 43 (by decide) (by decide) (by decide)
                    have r44g5 : g5 44 = f 44 := hfrg5 44 (by decide) (by decide) (by decide)
                    have r45g5 : g5 45 = f 45 := hfrg5 45 (by decide) (by decide) (by decide)
                    have r46g5 : g5 46 = f 46 := hfrg5 46 (by decide) (by decide) (by decide)
                    have r47g5 : g5 47 = f 47 := hfrg5 47 (by decide) (by decide) (by decide)
                    have rtg5 : g5 40 32 = f 40 32 := h40g5 32 (by decide)
                    have rag5 : ab_n g5 b n = ab_n f b n := ab_same (hfrg5 57 (by decide) (by decide) (by decide)) (hfrg5 63 (by decide) (by decide) (by decide)) (hfrg5 60 (by decide) (by decide) (by decide)) b n
                    have hBpg5 : pk_B g5 b := by unfold pk_B; rw [r41g5, r43g5, r44g5, r45g5, r46g5, r47g5]; exact hBb
                    have hmtg5 : mt_I g5 b (TS b) := mt_same hmtb (hfrg5 51 (by decide) (by decide) (by decide)) (hfrg5 52 (by decide) (by decide) (by decide))
                    refine a_istore (L' := [(0, .ref (ad 40)), (1, ii_v ((r : Nat) : Int)), (2, ii_v ((b : Nat) : Int)), (3, ii_v (pl_len v (f 46 b) (f 47 b) (TS b) (f 44 b) (f 45 b))), (4, ii_v ((i : Nat) : Int)), (5, ii_v ((i + d : Nat) : Int)), (6, ii_v (pl_fault v (lay_f r i (i + d) (TS b) 0) (f 44 b) (f 45 b) (f 40 32) (ab_n f b n) (f 41 b) (f 46 b) (f 47 b) (f 43 b)))]) C dX10_plans_70 (by decide) rfl ?_
                    obtain ⟨hbe1, hbe2, hbe3⟩ := id hbd
                    refine a_aload_n C dX10_plans_72 rfl ?_
                    refine a_aload_n C dX10_plans_73 rfl ?_
                    refine a_get (ci := 11) (i := 42) (v := ii_v (g5 40 42)) C iw_X10 rfl (by decide) rfl fl_X10_176 rfl rfl dX10_plans_74 ?_
                    refine a_top (w := ii_v (g 40 42)) (congrArg (fun q => ii_v q) (hgg5 42 (by decide))) ?_
                    refine a_iload C dX10_plans_77 rfl ?_
                    refine a_max C ml_X10_189 dX10_plans_79 (by decide) (Nat.le_of_ble_eq_true rfl) (by decide) (by unfold ii_B; omega) (by unfold ii_B; omega) ?_
                    refine a_put (ci := 11) (i := 42) C iw_X10 rfl (by decide) rfl tyX10 tyX10_ok nmX10 rfl rfl fl_X10_176 rfl rfl rfl rfl dX10_plans_82 ?_
                    obtain ⟨g6, eg6⟩ : ∃ F : Nat → Nat → Int, F = ii_up g5 40 42 (max (g 40 42) (pl_fault v (lay_f r i (i + d) (TS b) 0) (f 44 b) (f 45 b) (f 40 32) (ab_n f b n) (f 41 b) (f 46 b) (f 47 b) (f 43 b))) := ⟨_, rfl⟩
                    rw [← eg6]
                    have hfrg6 : ∀ o2, o2 ≠ 40 → o2 ≠ 75 → o2 ≠ 76 → g6 o2 = f o2 := fun o2 h1 h2 h3 => by rw [eg6, ii_up_row _ _ h1]; exact hfrg5 o2 h1 h2 h3
                    have h40g6 : ∀ i, i < 37 ∨ 42 < i → g6 40 i = f 40 i := fun i hi => by rw [eg6, ii_up_k _ _ (by omega)]; exact h40g5 i hi
                    have hwg6 : ∀ i, i ≠ 37 → i ≠ 42 → g6 40 i = g 40 i := fun i h1 h2 => by rw [eg6, ii_up_k _ _ h2]; exact hgg5 i h1
                    have hxg6 : g6 40 42 = max (g 40 42) (pl_fault v (lay_f r i (i + d) (TS b) 0) (f 44 b) (f 45 b) (f 40 32) (ab_n f b n) (f 41 b) (f 46 b) (f 47 b) (f 43 b)) := by rw [eg6, ii_up_s]
                    have hsg6 : tr_I g6 (lay_f r i (i + d) (TS b) 0) := by refine tr_put hsg5 (by decide) eg6
                    have hvpg6 : pj_C g6 v := pj_same hv (fun o2 h => hfrg6 o2 (by omega) (by omega) (by omega))
                    have r41g6 : g6 41 = f 41 := hfrg6 41 (by decide) (by decide) (by decide)
                    have r43g6 : g6 43 = f 43 := hfrg6 43 (by decide) (by decide) (by decide)
                    have r44g6 : g6 44 = f 44 := hfrg6 44 (by decide) (by decide) (by decide)
                    have r45g6 : g6 45 = f 45 := hfrg6 45 (by decide) (by decide) (by decide)
                    have r46g6 : g6 46 = f 46 := hfrg6 46 (by decide) (by decide) (by decide)
                    have r47g6 : g6 47 = f 47 := hfrg6 47 (by decide) (by decide) (by decide)
                    have rtg6 : g6 40 32 = f 40 32 := h40g6 32 (by decide)
                    have rag6 : ab_n g6 b n = ab_n f b n := ab_same (hfrg6 57 (by decide) (by decide) (by decide)) (hfrg6 63 (by decide) (by decide) (by decide)) (hfrg6 60 (by decide) (by decide) (by decide)) b n
                    have hBpg6 : pk_B g6 b := by unfold pk_B; rw [r41g6, r43g6, r44g6, r45g6, r46g6, r47g6]; exact hBb
                    have hmtg6 : mt_I g6 b (TS b) := mt_same hmtb (hfrg6 51 (by decide) (by decide) (by decide)) (hfrg6 52 (by decide) (by decide) (by decide))
                    refine a_aload_n C dX10_plans_85 rfl ?_
                    refine a_iload_n C dX10_plans_86 rfl ?_
                    refine a_callV (o := 40) (As := [ii_v ((b : Nat) : Int)]) C (m_runs hl g6 w b hb4 hvpg6 hBpg6 hsg6 hqP (by rw [rtg6]; exact hnow)) co_X10_runs in_X10 ml_X10_160 im_X10_runs se_X10_runs rfl rfl ar_X10_runs ⟨by decide, by decide, by decide, by decide⟩ rfl (Nat.le_of_ble_eq_true rfl) dX10_plans_87 (a_dF ?_) a_nF
                    intro vg7 g7 hvg7
                    obtain ⟨hr0, -, hfg7⟩ := hvg7
                    rw [r44g6, r45g6, r46g6, r47g6] at hr0
                    subst hr0
                    have hfrg7 : ∀ o2, o2 ≠ 40 → o2 ≠ 75 → o2 ≠ 76 → g7 o2 = f o2 := fun o2 h1 h2 h3 => (hfg7 o2 h3).trans (hfrg6 o2 h1 h2 h3)
                    have h40g7 : ∀ i, i < 37 ∨ 42 < i → g7 40 i = f 40 i := fun i hi => (congrFun (hfg7 40 (by decide)) i).trans (h40g6 i hi)
                    have hwg7 : ∀ i, i ≠ 37 → i ≠ 42 → g7 40 i = g 40 i := fun i h1 h2 => (congrFun (hfg7 40 (by decide)) i).trans (hwg6 i h1 h2)
                    have hxg7 : g7 40 42 = max (g 40 42) (pl_fault v (lay_f r i (i + d) (TS b) 0) (f 44 b) (f 45 b) (f 40 32) (ab_n f b n) (f 41 b) (f 46 b) (f 47 b) (f 43 b)) := (congrFun (hfg7 40 (by decide)) 42).trans hxg6
                    refine a_iload_n C dX10_plans_90 rfl ?_
                    refine a_isub C dX10_plans_91 ?_
                    refine a_istore (L' := [(0, .ref (ad 40)), (1, ii_v ((r : Nat) : Int)), (2, ii_v ((b : Nat) : Int)), (3, ii_v (pl_len v (f 46 b) (f 47 b) (TS b) (f 44 b) (f 45 b))), (4, ii_v ((i : Nat) : Int)), (5, ii_v ((i + d : Nat) : Int)), (6, ii_v (pl_fault v (lay_f r i (i + d) (TS b) 0) (f 44 b) (f 45 b) (f 40 32) (ab_n f b n) (f 41 b) (f 46 b) (f 47 b) (f 43 b))), (7, ii_v (pl_len v (f 46 b) (f 47 b) (lay_f r i (i + d) (TS b) 0) (f 44 b) (f 45 b) - pl_len v (f 46 b) (f 47 b) (TS b) (f 44 b) (f 45 b)))]) C dX10_plans_92 (by decide) rfl ?_
                    obtain ⟨hbd1, hbd2, hbd3⟩ := id hbd
                    refine a_iload C dX10_plans_94 rfl ?_
                    refine a_if_gt (tgt := 141) C dX10_plans_96 rfl (by unfold ii_B; omega) (fun h96 => ?_) (fun h96 => ?_)
                    · skip
                      refine a_iinc (L' := [(0, .ref (ad 40)), (1, ii_v ((r : Nat) : Int)), (2, ii_v ((b : Nat) : Int)), (3, ii_v (pl_len v (f 46 b) (f 47 b) (TS b) (f 44 b) (f 45 b))), (4, ii_v ((i : Nat) : Int)), (5, ii_v (((i + d : Nat) : Int) + 1)), (6, ii_v (pl_fault v (lay_f r i (i + d) (TS b) 0) (f 44 b) (f 45 b) (f 40 32) (ab_n f b n) (f 41 b) (f 46 b) (f 47 b) (f 43 b))), (7, ii_v (pl_len v (f 46 b) (f 47 b) (lay_f r i (i + d) (TS b) 0) (f 44 b) (f 45 b) - pl_len v (f 46 b) (f 47 b) (TS b) (f 44 b) (f 45 b)))]) C dX10_plans_141 rfl (by decide) rfl ?_
                      refine a_goto (tgt := 44) C dX10_plans_144 rfl ?_
                      refine a_pick [0, 1, 2, 3, 4, 5] (L2 := [(0, .ref (ad 40)), (1, ii_v ((r : Nat) : Int)), (2, ii_v ((b : Nat) : Int)), (3, ii_v (pl_len v (f 46 b) (f 47 b) (TS b) (f 44 b) (f 45 b))), (4, ii_v ((i : Nat) : Int)), (5, ii_v (((i + d : Nat) : Int) + 1))]) rfl ?_
                      exact ih44 (d + 1) g7 (by omega) (by omega) hfrg7 h40g7 (pm_no (F := pl_fault v (lay_f r i (i + d) (TS b) 0) (f 44 b) (f 45 b) (f 40 32) (ab_n f b n) (f 41 b) (f 46 b) (f 47 b) (f 43 b)) (A := pl_len v (f 46 b) (f 47 b) (lay_f r i (i + d) (TS b) 0) (f 44 b) (f 45 b) - pl_len v (f 46 b) (f 47 b) (TS b) (f 44 b) (f 45 b)) rfl rfl hst (fun i h1 h2 => hwg7 i h1 h2) hxg7 (fun z => by have := z.1; omega)) (pm_bN hbd hFb (hwg7 38 (by decide) (by decide)) (hwg7 41 (by decide) (by decide)) hxg7)
                    · skip
                      refine a_aload_n C dX10_plans_99 rfl ?_
                      refine a_get (ci := 11) (i := 38) (v := ii_v (g7 40 38)) C iw_X10 rfl (by decide) rfl fl_X10_173 rfl rfl dX10_plans_100 ?_
                      refine a_top (w := ii_v (g 40 38)) (congrArg (fun q => ii_v q) (hwg7 38 (by decide) (by decide))) ?_
                      refine a_if_lt (tgt := 118) C dX10_plans_103 rfl (by unfold ii_B; omega) (fun h103 => ?_) (fun h103 => ?_)
                      · skip
                        refine a_aload_n C dX10_plans_118 rfl ?_
                        refine a_iload_n C dX10_plans_119 rfl ?_
                        refine a_put (ci := 11) (i := 38) C iw_X10 rfl (by decide) rfl tyX10 tyX10_ok nmX10 rfl rfl fl_X10_173 rfl rfl rfl rfl dX10_plans_120 ?_
                        obtain ⟨g8, eg8⟩ : ∃ F : Nat → Nat → Int, F = ii_up g7 40 38 ((b : Nat) : Int) := ⟨_, rfl⟩
                        rw [← eg8]
                        refine a_aload_n C dX10_plans_123 rfl ?_
                        refine a_iload C dX10_plans_124 rfl ?_
                        refine a_put (ci := 11) (i := 39) C iw_X10 rfl (by decide) rfl tyX10 tyX10_ok nmX10 rfl rfl fl_X10_196 rfl rfl rfl rfl dX10_plans_126 ?_
                        obtain ⟨g9, eg9⟩ : ∃ F : Nat → Nat → Int, F = ii_up g8 40 39 ((i : Nat) : Int) := ⟨_, rfl⟩
                        rw [← eg9]
                        refine a_aload_n C dX10_plans_129 rfl ?_
                        refine a_iload C dX10_plans_130 rfl ?_
                        refine a_put (ci := 11) (i := 40) C iw_X10 rfl (by decide) rfl tyX10 tyX10_ok nmX10 rfl rfl fl_X10_199 rfl rfl rfl rfl dX10_plans_132 ?_
                        obtain ⟨g10, eg10⟩ : ∃ F : Nat → Nat → Int, F = ii_up g9 40 40 ((i + d : Nat) : Int) := ⟨_, rfl⟩
                        rw [← eg10]
                        refine a_aload_n C dX10_plans_135 rfl ?_
                        refine a_iload C dX10_plans_136 rfl ?_
                        refine a_put (ci := 11) (i := 41) C iw_X10 rfl (by decide) rfl tyX10 tyX10_ok nmX10 rfl rfl fl_X10_193 rfl rfl rfl rfl dX10_plans_138 ?_
                        obtain ⟨g11, eg11⟩ : ∃ F : Nat → Nat → Int, F = ii_up g10 40 41 (pl_len v (f 46 b) (f 47 b) (lay_f r i (i + d) (TS b) 0) (f 44 b) (f 45 b) - pl_len v (f 46 b) (f 47 b) (TS b) (f 44 b) (f 45 b)) := ⟨_, rfl⟩
                        rw [← eg11]
                        refine a_iinc (L' := [(0, .ref (ad 40)), (1, ii_v ((r : Nat) : Int)), (2, ii_v ((b : Nat) : Int)), (3, ii_v (pl_len v (f 46 b) (f 47 b) (TS b) (f 44 b) (f 45 b))), (4, ii_v ((i : Nat) : Int)), (5, ii_v (((i + d : Nat) : Int) + 1)), (6, ii_v (pl_fault v (lay_f r i (i + d) (TS b) 0) (f 44 b) (f 45 b) (f 40 32) (ab_n f b n) (f 41 b) (f 46 b) (f 47 b) (f 43 b))), (7, ii_v (pl_len v (f 46 b) (f 47 b) (lay_f r i (i + d) (TS b) 0) (f 44 b) (f 45 b) - pl_len v (f 46 b) (f 47 b) (TS b) (f 44 b) (f 45 b)))]) C dX10_plans_141 rfl (by decide) rfl ?_
                        refine a_goto (tgt := 44) C dX10_plans_144 rfl ?_
                        refine a_pick [0, 1, 2, 3, 4, 5] (L2 := [(0, .ref (ad 40)), (1, ii_v ((r : Nat) : Int)), (2, ii_v ((b : Nat) : Int)), (3, ii_v (pl_len v (f 46 b) (f 47 b) (TS b) (f 44 b) (f 45 b))), (4, ii_v ((i : Nat) : Int)), (5, ii_v (((i + d : Nat) : Int) + 1))]) rfl ?_
                        exact ih44 (d + 1) g11 (by omega) (by omega) (fun o2 h1 h2 h3 => by rw [eg11, ii_up_row _ _ h1, eg10, ii_up_row _ _ h1, eg9, ii_up_row _ _ h1, eg8, ii_up_row _ _ h1]; exact hfrg7 o2 h1 h2 h3) (fun i hi => by rw [eg11, ii_up_k _ _ (by omega), eg10, ii_up_k _ _ (by omega), eg9, ii_up_k _ _ (by omega), eg8, ii_up_k _ _ (by omega)]; exact h40g7 i hi) (pm_yes (F := pl_fault v (lay_f r i (i + d) (TS b) 0) (f 44 b) (f 45 b) (f 40 32) (ab_n f b n) (f 41 b) (f 46 b) (f 47 b) (f 43 b)) (A := pl_len v (f 46 b) (f 47 b) (lay_f r i (i + d) (TS b) 0) (f 44 b) (f 45 b) - pl_len v (f 46 b) (f 47 b) (TS b) (f 44 b) (f 45 b)) rfl rfl hst (by omega) (by rw [hst.2.2.2 (by rw [← hst.1]; omega)]; omega) (by rw [eg11, ii_up_k _ _ (by decide), eg10, ii_up_k _ _ (by decide), eg9, ii_up_k _ _ (by decide), eg8, ii_up_s]) (by rw [eg11, ii_up_k _ _ (by decide), eg10, ii_up_k _ _ (by decide), eg9, ii_up_s]) (by rw [eg11, ii_up_k _ _ (by decide), eg10, ii_up_s]) (by rw [eg11, ii_up_s]) (by rw [eg11, ii_up_k _ _ (by decide), eg10, ii_up_k _ _ (by decide), eg9, ii_up_k _ _ (by decide), eg8, ii_up_k _ _ (by decide)]; exact hxg7)) (pm_bY (b := b) (A := pl_len v (f 46 b) (f 47 b) (lay_f r i (i + d) (TS b) 0) (f 44 b) (f 45 b) - pl_len v (f 46 b) (f 47 b) (TS b) (f 44 b) (f 45 b)) hbd hFb (by omega) (by omega) (by rw [eg11, ii_up_k _ _ (by decide), eg10, ii_up_k _ _ (by decide), eg9, ii_up_k _ _ (by decide), eg8, ii_up_s]) (by rw [eg11, ii_up_s]) (by rw [eg11, ii_up_k _ _ (by decide), eg10, ii_up_k _ _ (by decide), eg9, ii_up_k _ _ (by decide), eg8, ii_up_k _ _ (by decide)]; exact hxg7))
                      · skip
                        have hq41 := hbd.2.2 (by omega)
                        refine a_iload C dX10_plans_106 rfl ?_
                        refine a_aload_n C dX10_plans_108 rfl ?_
                        refine a_get (ci := 11) (i := 41) (v := ii_v (g7 40 41)) C iw_X10 rfl (by decide) rfl fl_X10_193 rfl rfl dX10_plans_109 ?_
                        refine a_top (w := ii_v (g 40 41)) (congrArg (fun q => ii_v q) (hwg7 41 (by decide) (by decide))) ?_
                        refine a_icmp_lt (tgt := 118) C dX10_plans_112 rfl (by unfold ii_B; omega) (by unfold ii_B; omega) (fun h112 => ?_) (fun h112 => ?_)
                        · skip
                          refine a_aload_n C dX10_plans_118 rfl ?_
                          refine a_iload_n C dX10_plans_119 rfl ?_
                          refine a_put (ci := 11) (i := 38) C iw_X10 rfl (by decide) rfl tyX10 tyX10_ok nmX10 rfl rfl fl_X10_173 rfl rfl rfl rfl dX10_plans_120 ?_
                          obtain ⟨g12, eg12⟩ : ∃ F : Nat → Nat → Int, F = ii_up g7 40 38 ((b : Nat) : Int) := ⟨_, rfl⟩
                          rw [← eg12]
                          refine a_aload_n C dX10_plans_123 rfl ?_
                          refine a_iload C dX10_plans_124 rfl ?_
                          refine a_put (ci := 11) (i := 39) C iw_X10 rfl (by decide) rfl tyX10 tyX10_ok nmX10 rfl rfl fl_X10_196 rfl rfl rfl rfl dX10_plans_126 ?_
                          obtain ⟨g13, eg13⟩ : ∃ F : Nat → Nat → Int, F = ii_up g12 40 39 ((i : Nat) : Int) := ⟨_, rfl⟩
                          rw [← eg13]
                          refine a_aload_n C dX10_plans_129 rfl ?_
                          refine a_iload C dX10_plans_130 rfl ?_
                          refine a_put (ci := 11) (i := 40) C iw_X10 rfl (by decide) rfl tyX10 tyX10_ok nmX10 rfl rfl fl_X10_199 rfl rfl rfl rfl dX10_plans_132 ?_
                          obtain ⟨g14, eg14⟩ : ∃ F : Nat → Nat → Int, F = ii_up g13 40 40 ((i + d : Nat) : Int) := ⟨_, rfl⟩
                          rw [← eg14]
                          refine a_aload_n C dX10_plans_135 rfl ?_
                          refine a_iload C dX10_plans_136 rfl ?_
                          refine a_put (ci := 11) (i := 41) C iw_X10 rfl (by decide) rfl tyX10 tyX10_ok nmX10 rfl rfl fl_X10_193 rfl rfl rfl rfl dX10_plans_138 ?_
                          obtain ⟨g15, eg15⟩ : ∃ F : Nat → Nat → Int, F = ii_up g14 40 41 (pl_len v (f 46 b) (f 47 b) (lay_f r i (i + d) (TS b) 0) (f 44 b) (f 45 b) - pl_len v (f 46 b) (f 47 b) (TS b) (f 44 b) (f 45 b)) := ⟨_, rfl⟩
                          rw [← eg15]
                          refine a_iinc (L' := [(0, .ref (ad 40)), (1, ii_v ((r : Nat) : Int)), (2, ii_v ((b : Nat) : Int)), (3, ii_v (pl_len v (f 46 b) (f 47 b) (TS b) (f 44 b) (f 45 b))), (4, ii_v ((i : Nat) : Int)), (5, ii_v (((i + d : Nat) : Int) + 1)), (6, ii_v (pl_fault v (lay_f r i (i + d) (TS b) 0) (f 44 b) (f 45 b) (f 40 32) (ab_n f b n) (f 41 b) (f 46 b) (f 47 b) (f 43 b))), (7, ii_v (pl_len v (f 46 b) (f 47 b) (lay_f r i (i + d) (TS b) 0) (f 44 b) (f 45 b) - pl_len v (f 46 b) (f 47 b) (TS b) (f 44 b) (f 45 b)))]) C dX10_plans_141 rfl (by decide) rfl ?_
                          refine a_goto (tgt := 44) C dX10_plans_144 rfl ?_
                          refine a_pick [0, 1, 2, 3, 4, 5] (L2 := [(0, .ref (ad 40)), (1, ii_v ((r : Nat) : Int)), (2, ii_v ((b : Nat) : Int)), (3, ii_v (pl_len v (f 46 b) (f 47 b) (TS b) (f 44 b) (f 45 b))), (4, ii_v ((i : Nat) : Int)), (5, ii_v (((i + d : Nat) : Int) + 1))]) rfl ?_
                          exact ih44 (d + 1) g15 (by omega) (by omega) (fun o2 h1 h2 h3 => by rw [eg15, ii_up_row _ _ h1, eg14, ii_up_row _ _ h1, eg13, ii_up_row _ _ h1, eg12, ii_up_row _ _ h1]; exact hfrg7 o2 h1 h2 h3) (fun i hi => by rw [eg15, ii_up_k _ _ (by omega), eg14, ii_up_k _ _ (by omega), eg13, ii_up_k _ _ (by omega), eg12, ii_up_k _ _ (by omega)]; exact h40g7 i hi) (pm_yes (F := pl_fault v (lay_f r i (i + d) (TS b) 0) (f 44 b) (f 45 b) (f 40 32) (ab_n f b n) (f 41 b) (f 46 b) (f 47 b) (f 43 b)) (A := pl_len v (f 46 b) (f 47 b) (lay_f r i (i + d) (TS b) 0) (f 44 b) (f 45 b) - pl_len v (f 46 b) (f 47 b) (TS b) (f 44 b) (f 45 b)) rfl rfl hst (by omega) (by rw [← (hst.2.1 (by rw [← hst.1]; omega)).2.2]; omega) (by rw [eg15, ii_up_k _ _ (by decide), eg14, ii_up_k _ _ (by decide), eg13, ii_up_k _ _ (by decide), eg12, ii_up_s]) (by rw [eg15, ii_up_k _ _ (by decide), eg14, ii_up_k _ _ (by decide), eg13, ii_up_s]) (by rw [eg15, ii_up_k _ _ (by decide), eg14, ii_up_s]) (by rw [eg15, ii_up_s]) (by rw [eg15, ii_up_k _ _ (by decide), eg14, ii_up_k _ _ (by decide), eg13, ii_up_k _ _ (by decide), eg12, ii_up_k _ _ (by decide)]; exact hxg7)) (pm_bY (b := b) (A := pl_len v (f 46 b) (f 47 b) (lay_f r i (i + d) (TS b) 0) (f 44 b) (f 45 b) - pl_len v (f 46 b) (f 47 b) (TS b) (f 44 b) (f 45 b)) hbd hFb (by omega) (by omega) (by rw [eg15, ii_up_k _ _ (by decide), eg14, ii_up_k _ _ (by decide), eg13, ii_up_k _ _ (by decide), eg12, ii_up_s]) (by rw [eg15, ii_up_s]) (by rw [eg15, ii_up_k _ _ (by decide), eg14, ii_up_k _ _ (by decide), eg13, ii_up_k _ _ (by decide), eg12, ii_up_k _ _ (by decide)]; exact hxg7))
                        · skip
                          refine a_goto (tgt := 141) C dX10_plans_115 rfl ?_
                          refine a_iinc (L' := [(0, .ref (ad 40)), (1, ii_v ((r : Nat) : Int)), (2, ii_v ((b : Nat) : Int)), (3, ii_v (pl_len v (f 46 b) (f 47 b) (TS b) (f 44 b) (f 45 b))), (4, ii_v ((i : Nat) : Int)), (5, ii_v (((i + d : Nat) : Int) + 1)), (6, ii_v (pl_fault v (lay_f r i (i + d) (TS b) 0) (f 44 b) (f 45 b) (f 40 32) (ab_n f b n) (f 41 b) (f 46 b) (f 47 b) (f 43 b))), (7, ii_v (pl_len v (f 46 b) (f 47 b) (lay_f r i (i + d) (TS b) 0) (f 44 b) (f 45 b) - pl_len v (f 46 b) (f 47 b) (TS b) (f 44 b) (f 45 b)))]) C dX10_plans_141 rfl (by decide) rfl ?_
                          refine a_goto (tgt := 44) C dX10_plans_144 rfl ?_
                          refine a_pick [0, 1, 2, 3, 4, 5] (L2 := [(0, .ref (ad 40)), (1, ii_v ((r : Nat) : Int)), (2, ii_v ((b : Nat) : Int)), (3, ii_v (pl_len v (f 46 b) (f 47 b) (TS b) (f 44 b) (f 45 b))), (4, ii_v ((i : Nat) : Int)), (5, ii_v (((i + d : Nat) : Int) + 1))]) rfl ?_
                          exact ih44 (d + 1) g7 (by omega) (by omega) hfrg7 h40g7 (pm_no (F := pl_fault v (lay_f r i (i + d) (TS b) 0) (f 44 b) (f 45 b) (f 40 32) (ab_n f b n) (f 41 b) (f 46 b) (f 47 b) (f 43 b)) (A := pl_len v (f 46 b) (f 47 b) (lay_f r i (i + d) (TS b) 0) (f 44 b) (f 45 b) - pl_len v (f 46 b) (f 47 b) (TS b) (f 44 b) (f 45 b)) rfl rfl hst (fun i h1 h2 => hwg7 i h1 h2) hxg7 (fun z => by have z2 := z.2; rw [← (hst.2.1 (by rw [← hst.1]; omega)).2.2] at z2; omega)) (pm_bN hbd hFb (hwg7 38 (by decide) (by decide)) (hwg7 41 (by decide) (by decide)) hxg7)
              exact loop44 (_ + 1) 0 g (Nat.lt_succ_self _) (by omega) hfrg h40g hst hbd
        exact loop29 (_ + 1) 0 g3 (Nat.lt_succ_self _) (Nat.zero_le _) hfrg3 h40g3 hstg3 hbdg3
  exact loop12 (_ + 1) 0 g2 (Nat.lt_succ_self _) (Nat.zero_le _) (fun o2 h1 h2 h3 => by rw [eg2, ii_up_row _ _ h1, eg1, ii_up_row _ _ h1]) (fun i hi => by rw [eg2, ii_up_k _ _ (by omega), eg1, ii_up_k _ _ (by omega)]) (by rw [eg2, eg1]; exact pm_at0 f c4 c5) (by rw [eg2, eg1]; exact pm_bd0 f)
