/-! The model: all orders. -/
abbrev om_S : Type := Int × List Nat
/-- one order is tried: the length of the best, the best -/
def om_0 (v : Nat → Nat → Int) (β : Nat → Int) (now : Int) (P : List Nat) (s : om_S) : om_S :=
  if 0 < pl_fault v P (β 6) (β 7) now (β 9) (β 1) (β 3) (β 4) (β 8) ∨ (0 ≤ s.1 ∧ s.1 ≤ pl_len v (β 3) (β 4) P (β 6) (β 7)) then s else (pl_len v (β 3) (β 4) P (β 6) (β 7), P)
def om_k (g : Nat → om_S → om_S) : Nat → om_S → om_S
  | 0, s => s
  | t + 1, s => g t (om_k g t s)
/-- all orders that begin with P, L stops more -/
def om_f (v : Nat → Nat → Int) (β : Nat → Int) (now : Int) (S : List Nat) (n : Nat) : Nat → List Nat → om_S → om_S
  | 0, P, s => om_0 v β now P s
  | L + 1, P, s => om_k (fun t s => if t ∈ S ∧ ¬ t ∈ P ∧ ¬ (¬ t % 2 = 0 ∧ t - 1 ∈ S ∧ ¬ t - 1 ∈ P) then om_f v β now S n L (P ++ [t]) s else s) (2 * n) s
/-- the best as the model keeps it -/
def bs_I (g : Nat → Nat → Int) (m : Nat) (s : om_S) : Prop := g 40 45 = s.1 ∧ (-1 ≤ s.1 ∧ s.1 ≤ 1000) ∧ (0 ≤ s.1 → s.2.length = m ∧ ∀ j, j < m → g 83 j = ((s.2.getD j 0 : Nat) : Int))
theorem bs_same {f g : Nat → Nat → Int} {m : Nat} {s : om_S} (h : bs_I f m s) (h1 : g 40 45 = f 40 45) (h2 : g 83 = f 83) : bs_I g m s := by
  unfold bs_I
  rw [h1, h2]
  exact h
section OM
variable {v : Nat → Nat → Int} {β : Nat → Int} {now F A : Int} {P : List Nat} {s : om_S}
theorem om_n (hF : pl_fault v P (β 6) (β 7) now (β 9) (β 1) (β 3) (β 4) (β 8) = F) (hA : pl_len v (β 3) (β 4) P (β 6) (β 7) = A) (h : 0 < F ∨ (0 ≤ s.1 ∧ s.1 ≤ A)) : om_0 v β now P s = s := by
  unfold om_0
  rw [hF, hA, if_pos h]
theorem om_y (hF : pl_fault v P (β 6) (β 7) now (β 9) (β 1) (β 3) (β 4) (β 8) = F) (hA : pl_len v (β 3) (β 4) P (β 6) (β 7) = A) (h : ¬ 0 < F) (h2 : ¬ (0 ≤ s.1 ∧ s.1 ≤ A)) : om_0 v β now P s = (A, P) := by
  unfold om_0
  rw [hF, hA, if_neg (fun z => z.elim h h2)]
end OM
theorem mB_same {f g : Nat → Nat → Int} {n b : Nat} (h1 : g 41 = f 41) (h2 : g 43 = f 43) (h3 : g 44 = f 44) (h4 : g 45 = f 45) (h5 : g 46 = f 46) (h6 : g 47 = f 47) (h7 : ab_n g b n = ab_n f b n) : mB g n b = mB f n b := by
  funext i
  unfold mB
  rw [h1, h2, h3, h4, h5, h6, h7]
theorem tk_app {g : Nat → Nat → Int} {P : List Nat} {t : Nat} (h : ∀ j, j < P.length → g 84 j = ((P.getD j 0 : Nat) : Int)) (j : Nat) (hj : j < (P ++ [t]).length) : ii_up g 84 P.length ((t : Nat) : Int) 84 j = (((P ++ [t]).getD j 0 : Nat) : Int) := by
  rw [List.length_append] at hj
  simp at hj
  rcases Nat.lt_or_ge j P.length with z | z
  · rw [ii_up_k _ _ (by omega), gd_app_l z]
    exact h j z
  · rw [show j = P.length by omega, ii_up_s, gd_app_r (Nat.le_refl _), Nat.sub_self]
    rfl
theorem tk_all {P : List Nat} {t : Nat} {p : Nat → Prop} (h : ∀ j, j < P.length → p (P.getD j 0)) (ht : p t) : ∀ j, j < (P ++ [t]).length → p ((P ++ [t]).getD j 0) := by
  intro j hj
  rw [List.length_append] at hj
  simp at hj
  rcases Nat.lt_or_ge j P.length with z | z
  · rw [gd_app_l z]
    exact h j z
  · rw [show j = P.length by omega, gd_app_r (Nat.le_refl _), Nat.sub_self]
    exact ht
set_option maxRecDepth 20000 in
set_option maxHeartbeats 2000000 in
theorem m_isOnTour {l : Launch} {E : ab_E} {base : Nat} (hl : l.stackTraces = false) {ad : Nat → Nat} (f : Nat → Nat → Int) (w : Nat × Nat × Int64 × UInt64) (b : Nat) (hb : b < 4) {S : List Nat} (hS : mt_I f b S) (hS6 : S.length ≤ 6) (hom : f 40 46 = (S.length : Int)) (q : Nat) (hq64 : q < 1000) : ab_M l E base yX10_isOnTour cX10_isOnTour 4 (some .boolean) 1 0 0 [.ref (ad 40), ii_v ((b : Nat) : Int), ii_v ((q : Nat) : Int)] ab_x4 ad (f, w) (ab_R (ii_v (if q ∈ S then 1 else 0)) ab_x4 ad (f, w)) := by
  obtain ⟨Post, hPost⟩ : ∃ P : ab_P, P = (ab_R (ii_v (if q ∈ S then 1 else 0)) ab_x4 ad (f, w)) := ⟨_, rfl⟩
  rw [← hPost]
  refine ab_of RX10 [(0, .ref (ad 40)), (1, ii_v ((b : Nat) : Int)), (2, ii_v ((q : Nat) : Int))] hl (by decide) rfl (Nat.le_of_ble_eq_true rfl) rfl ?_
  intro p e s m args below meth c C T0 hnm
  obtain ⟨hc, h8, hj, hb64⟩ := id hS
  refine a_iconst C dX10_isOnTour_0 ?_
  refine a_istore_n (L' := [(0, .ref (ad 40)), (1, ii_v ((b : Nat) : Int)), (2, ii_v ((q : Nat) : Int)), (3, ii_v 0)]) C dX10_isOnTour_1 (by decide) rfl ?_
  have loop2 : ∀ (NN2 : Nat) (k : Nat), S.length - k < NN2 → (k ≤ S.length) → (∀ j, j < k → S.getD j 0 ≠ q) → ab_W p l e (ab_rm 1 0 0) s m args below meth c E base 4 (ab_Q below E base Post args s 0 0) ab_x4 ad (f, w) 0 0 2 [(0, .ref (ad 40)), (1, ii_v ((b : Nat) : Int)), (2, ii_v ((q : Nat) : Int)), (3, ii_v ((k : Nat) : Int))] [] := by
    intro NN2
    induction NN2 with
    | zero => intro k hNN; exact absurd hNN (Nat.not_lt_zero _)
    | succ NN2 ih2 =>
      intro k hNN hk hnn
      refine a_iload_n C dX10_isOnTour_2 rfl ?_
      refine a_aload_n C dX10_isOnTour_3 rfl ?_
      refine a_get (ci := 11) (i := 46) (v := ii_v (f 40 46)) C iw_X10 rfl (by decide) rfl fl_X10_241 rfl rfl dX10_isOnTour_4 ?_
      refine a_top (w := ii_v ((S.length : Nat) : Int)) (congrArg (fun q => ii_v q) hom) ?_
      refine a_icmp_ge (tgt := 33) C dX10_isOnTour_7 rfl (by unfold ii_B; omega) (by unfold ii_B; omega) (fun h7 => ?_) (fun h7 => ?_)
      · skip
        refine a_iconst C dX10_isOnTour_33 ?_
        refine a_zret C (by decide) ?_ (by decide) (by decide) dX10_isOnTour_34
        rw [hPost]
        exact ⟨rt_0 (fun hm => by have hz := gd_idx (d := 0) hm; exact hnn _ (by omega) hz.2), rfl, rfl, rfl⟩
      · skip
        have q64 := hb64 k (by omega)
        refine a_aload_n C dX10_isOnTour_10 rfl ?_
        refine a_get (ci := 11) (i := 12) (v := .ref (ad 52)) C iw_X10 rfl (by decide) rfl fl_X10_43 rfl rfl dX10_isOnTour_11 ?_
        refine a_bipush C dX10_isOnTour_14 (by decide) ?_
        refine a_iload_n C dX10_isOnTour_16 rfl ?_
        refine a_imul C dX10_isOnTour_17 ?_
        refine a_iload_n C dX10_isOnTour_18 rfl ?_
        refine a_iadd C dX10_isOnTour_19 ?_
        refine a_iald (o := 52) (N := 32) ((8 * b) + k) C dX10_isOnTour_20 rfl (by omega) (by omega) (by decide) ?_
        refine a_top (w := ii_v (f 52 ((8 * b) + k))) rfl ?_
        refine a_top (w := ii_v ((S.getD k 0 : Nat) : Int)) (congrArg (fun q => ii_v q) (hj k (by omega))) ?_
        refine a_iload_n C dX10_isOnTour_21 rfl ?_
        refine a_icmp_ne (tgt := 27) C dX10_isOnTour_22 rfl (by unfold ii_B; omega) (by unfold ii_B; omega) (fun h22 => ?_) (fun h22 => ?_)
        · skip
          refine a_iinc (L' := [(0, .ref (ad 40)), (1, ii_v ((b : Nat) : Int)), (2, ii_v ((q : Nat) : Int)), (3, ii_v (((k : Nat) : Int) + 1))]) C dX10_isOnTour_27 rfl (by decide) rfl ?_
          refine a_goto (tgt := 2) C dX10_isOnTour_30 rfl ?_
          exact ih2 (k + 1) (by omega) (by omega) (lt_s hnn (fun z => h22 (by omega)))
        · skip
          refine a_iconst C dX10_isOnTour_25 ?_
          refine a_zret C (by decide) ?_ (by decide) (by decide) dX10_isOnTour_26
          rw [hPost]
          exact ⟨rt_1 (by rw [show q = S.getD k 0 by omega]; exact gd_mem (by omega)), rfl, rfl, rfl⟩
  exact loop2 (_ + 1) 0 (Nat.lt_succ_self _) (Nat.zero_le _) (fun j h => absurd h (Nat.not_lt_zero j))
set_option maxRecDepth 20000 in
set_option maxHeartbeats 2000000 in
theorem m_isTaken {l : Launch} {E : ab_E} {base : Nat} (hl : l.stackTraces = false) {ad : Nat → Nat} (f : Nat → Nat → Int) (w : Nat × Nat × Int64 × UInt64) {Pf : List Nat} (hP : ∀ j, j < Pf.length → f 84 j = ((Pf.getD j 0 : Nat) : Int)) (hP8 : Pf.length ≤ 8) (hP64 : ∀ j, j < Pf.length → Pf.getD j 0 < 64) (q : Nat) (hq64 : q < 1000) : ab_M l E base yX10_isTaken cX10_isTaken 4 (some .boolean) 1 0 0 [.ref (ad 40), ii_v ((q : Nat) : Int), ii_v ((Pf.length : Nat) : Int)] ab_x4 ad (f, w) (ab_R (ii_v (if q ∈ Pf then 1 else 0)) ab_x4 ad (f, w)) := by
  obtain ⟨Post, hPost⟩ : ∃ P : ab_P, P = (ab_R (ii_v (if q ∈ Pf then 1 else 0)) ab_x4 ad (f, w)) := ⟨_, rfl⟩
  rw [← hPost]
  refine ab_of RX10 [(0, .ref (ad 40)), (1, ii_v ((q : Nat) : Int)), (2, ii_v ((Pf.length : Nat) : Int))] hl (by decide) rfl (Nat.le_of_ble_eq_true rfl) rfl ?_
  intro p e s m args below meth c C T0 hnm
  refine a_iconst C dX10_isTaken_0 ?_
  refine a_istore_n (L' := [(0, .ref (ad 40)), (1, ii_v ((q : Nat) : Int)), (2, ii_v ((Pf.length : Nat) : Int)), (3, ii_v 0)]) C dX10_isTaken_1 (by decide) rfl ?_
  have loop2 : ∀ (NN2 : Nat) (k : Nat), Pf.length - k < NN2 → (k ≤ Pf.length) → (∀ j, j < k → Pf.getD j 0 ≠ q) → ab_W p l e (ab_rm 1 0 0) s m args below meth c E base 4 (ab_Q below E base Post args s 0 0) ab_x4 ad (f, w) 0 0 2 [(0, .ref (ad 40)), (1, ii_v ((q : Nat) : Int)), (2, ii_v ((Pf.length : Nat) : Int)), (3, ii_v ((k : Nat) : Int))] [] := by
    intro NN2
    induction NN2 with
    | zero => intro k hNN; exact absurd hNN (Nat.not_lt_zero _)
    | succ NN2 ih2 =>
      intro k hNN hk hnn
      refine a_iload_n C dX10_isTaken_2 rfl ?_
      refine a_iload_n C dX10_isTaken_3 rfl ?_
      refine a_icmp_ge (tgt := 25) C dX10_isTaken_4 rfl (by unfold ii_B; omega) (by unfold ii_B; omega) (fun h4 => ?_) (fun h4 => ?_)
      · skip
        refine a_iconst C dX10_isTaken_25 ?_
        refine a_zret C (by decide) ?_ (by decide) (by decide) dX10_isTaken_26
        rw [hPost]
        exact ⟨rt_0 (fun hm => by have hz := gd_idx (d := 0) hm; exact hnn _ (by omega) hz.2), rfl, rfl, rfl⟩
      · skip
        have q64 := hP64 k (by omega)
        refine a_aload_n C dX10_isTaken_7 rfl ?_
        refine a_get (ci := 11) (i := 44) (v := .ref (ad 84)) C iw_X10 rfl (by decide) rfl fl_X10_111 rfl rfl dX10_isTaken_8 ?_
        refine a_iload_n C dX10_isTaken_11 rfl ?_
        refine a_iald (o := 84) (N := 8) k C dX10_isTaken_12 rfl (by omega) (by omega) (by decide) ?_
        refine a_top (w := ii_v (f 84 k)) rfl ?_
        refine a_top (w := ii_v ((Pf.getD k 0 : Nat) : Int)) (congrArg (fun q => ii_v q) (hP k (by omega))) ?_
        refine a_iload_n C dX10_isTaken_13 rfl ?_
        refine a_icmp_ne (tgt := 19) C dX10_isTaken_14 rfl (by unfold ii_B; omega) (by unfold ii_B; omega) (fun h14 => ?_) (fun h14 => ?_)
        · skip
          refine a_iinc (L' := [(0, .ref (ad 40)), (1, ii_v ((q : Nat) : Int)), (2, ii_v ((Pf.length : Nat) : Int)), (3, ii_v (((k : Nat) : Int) + 1))]) C dX10_isTaken_19 rfl (by decide) rfl ?_
          refine a_goto (tgt := 2) C dX10_isTaken_22 rfl ?_
          exact ih2 (k + 1) (by omega) (by omega) (lt_s hnn (fun z => h14 (by omega)))
        · skip
          refine a_iconst C dX10_isTaken_17 ?_
          refine a_zret C (by decide) ?_ (by decide) (by decide) dX10_isTaken_18
          rw [hPost]
          exact ⟨rt_1 (by rw [show q = Pf.getD k 0 by omega]; exact gd_mem (by omega)), rfl, rfl, rfl⟩
  exact loop2 (_ + 1) 0 (Nat.lt_succ_self _) (Nat.zero_le _) (fun j h => absurd h (Nat.not_lt_zero j))
set_option maxRecDepth 20000 in
set_option maxHeartbeats 2000000 in
theorem m_orders0 {l : Launch} {E : ab_E} {base : Nat} (hl : l.stackTraces = false) {ad : Nat → Nat} (f : Nat → Nat → Int) (w : Nat × Nat × Int64 × UInt64) (b : Nat) (hb : b < 4) {v : Nat → Nat → Int} (hv : pj_C f v) (hB : pk_B f b) (hnow : 0 ≤ f 40 32 ∧ f 40 32 ≤ 100000) (n : Nat) (hn : f 40 30 = (n : Int)) (hn30 : n ≤ 30) (hrid : ∀ r, r < n → (0 ≤ f 57 r ∧ f 57 r ≤ 6) ∧ st_ok (f 63 r) ∧ -1 ≤ f 60 r ∧ f 60 r ≤ 10) {S : List Nat} (hS : mt_I f b S) (hS6 : S.length ≤ 6) (hom : f 40 46 = (S.length : Int)) {Pf : List Nat} (hP : ∀ j, j < Pf.length → f 84 j = ((Pf.getD j 0 : Nat) : Int)) (hP8 : Pf.length ≤ 8) (hP64 : ∀ j, j < Pf.length → Pf.getD j 0 < 64) (hPq : ∀ j, j < Pf.length → Pf.getD j 0 / 2 ≤ 30) (hPL : Pf.length + 0 = S.length) (s0 : om_S) (hs : bs_I f S.length s0)  : ab_M l E base yX10_orders cX10_orders 5 none 7 0 0 [.ref (ad 40), ii_v ((b : Nat) : Int), ii_v ((Pf.length : Nat) : Int)] ab_x4 ad (f, w) (ab_F ad w (fun ov g => ov = none ∧ bs_I g S.length (om_f v (mB f n b) (f 40 32) S n 0 Pf s0) ∧ (∀ j, j < Pf.length → g 84 j = f 84 j) ∧ (∀ o2, o2 ≠ 40 → (o2 < 75 ∨ 76 < o2) → (o2 < 83 ∨ 84 < o2) → g o2 = f o2) ∧ (∀ i, i ≠ 37 → i ≠ 45 → g 40 i = f 40 i))) := by
  obtain ⟨Post, hPost⟩ : ∃ P : ab_P, P = (ab_F ad w (fun ov g => ov = none ∧ bs_I g S.length (om_f v (mB f n b) (f 40 32) S n 0 Pf s0) ∧ (∀ j, j < Pf.length → g 84 j = f 84 j) ∧ (∀ o2, o2 ≠ 40 → (o2 < 75 ∨ 76 < o2) → (o2 < 83 ∨ 84 < o2) → g o2 = f o2) ∧ (∀ i, i ≠ 37 → i ≠ 45 → g 40 i = f 40 i))) := ⟨_, rfl⟩
  rw [← hPost]
  refine ab_of RX10 [(0, .ref (ad 40)), (1, ii_v ((b : Nat) : Int)), (2, ii_v ((Pf.length : Nat) : Int))] hl (by decide) rfl (Nat.le_of_ble_eq_true rfl) rfl ?_
  intro p e s m args below meth c C T0 hnm
  obtain ⟨hB1, hB2, hB3, hB4, hB5, hB6⟩ := id hB
  have hPl : Pf.length = S.length := by omega
  refine a_iload_n C dX10_orders_0 rfl ?_
  refine a_aload_n C dX10_orders_1 rfl ?_
  refine a_get (ci := 11) (i := 46) (v := ii_v (f 40 46)) C iw_X10 rfl (by decide) rfl fl_X10_241 rfl rfl dX10_orders_2 ?_
  refine a_top (w := ii_v ((S.length : Nat) : Int)) (congrArg (fun q => ii_v q) hom) ?_
  refine a_icmp_ne (tgt := 112) C dX10_orders_5 rfl (by unfold ii_B; omega) (by unfold ii_B; omega) (fun h5 => ?_) (fun h5 => ?_)
  · skip
    omega
  · skip
    refine a_aload_n C dX10_orders_8 rfl ?_
    refine a_aload_n C dX10_orders_9 rfl ?_
    refine a_get (ci := 11) (i := 46) (v := ii_v (f 40 46)) C iw_X10 rfl (by decide) rfl fl_X10_241 rfl rfl dX10_orders_10 ?_
    refine a_top (w := ii_v ((S.length : Nat) : Int)) (congrArg (fun q => ii_v q) hom) ?_
    refine a_put (ci := 11) (i := 37) C iw_X10 rfl (by decide) rfl tyX10 tyX10_ok nmX10 rfl rfl fl_X10_144 rfl rfl rfl rfl dX10_orders_13 ?_
    obtain ⟨g1, eg1⟩ : ∃ F : Nat → Nat → Int, F = ii_up f 40 37 ((S.length : Nat) : Int) := ⟨_, rfl⟩
    rw [← eg1]
    have h37g1 : g1 40 37 = (Pf.length : Int) := by rw [eg1, ii_up_s, hPl]
    have hfrg1 : (∀ o2, o2 ≠ 40 → (o2 < 75 ∨ 76 < o2) → (o2 < 83 ∨ 84 < o2) → g1 o2 = f o2) := fun o2 h1 h2 h3 => by rw [eg1, ii_up_row _ _ h1]
    have h40g1 : (∀ i, i ≠ 37 → i ≠ 45 → g1 40 i = f 40 i) := fun i h1 h2 => by rw [eg1, ii_up_k _ _ h1]
    have h84g1 : g1 84 = f 84 := by rw [eg1]; exact ii_up_row _ _ (by decide)
    have h83g1 : g1 83 = f 83 := by rw [eg1]; exact ii_up_row _ _ (by decide)
    have hb45g1 : g1 40 45 = f 40 45 := by rw [eg1, ii_up_k _ _ (by decide)]
    refine a_iconst C dX10_orders_16 ?_
    refine a_istore_n (L' := [(0, .ref (ad 40)), (1, ii_v ((b : Nat) : Int)), (2, ii_v ((Pf.length : Nat) : Int)), (3, ii_v 0)]) C dX10_orders_17 (by decide) rfl ?_
    have loop18 : ∀ (NN18 : Nat) (k : Nat) (g : Nat → Nat → Int), Pf.length - k < NN18 → (k ≤ Pf.length) → (g 40 37 = (Pf.length : Int)) → (∀ j, j < k → g 75 j = ((Pf.getD j 0 : Nat) : Int)) → ((∀ o2, o2 ≠ 40 → (o2 < 75 ∨ 76 < o2) → (o2 < 83 ∨ 84 < o2) → g o2 = f o2)) → ((∀ i, i ≠ 37 → i ≠ 45 → g 40 i = f 40 i)) → (g 84 = f 84) → (g 83 = f 83) → (g 40 45 = f 40 45) → ab_W p l e (ab_rm 7 0 0) s m args below meth c E base 5 (ab_Q below E base Post args s 0 0) ab_x4 ad (g, w) 0 0 18 [(0, .ref (ad 40)), (1, ii_v ((b : Nat) : Int)), (2, ii_v ((Pf.length : Nat) : Int)), (3, ii_v ((k : Nat) : Int))] [] := by
      intro NN18
      induction NN18 with
      | zero => intro k g hNN; exact absurd hNN (Nat.not_lt_zero _)
      | succ NN18 ih18 =>
        intro k g hNN hk h37g hgj hfrg h40g h84g h83g hb45g
        refine a_iload_n C dX10_orders_18 rfl ?_
        refine a_aload_n C dX10_orders_19 rfl ?_
        refine a_get (ci := 11) (i := 46) (v := ii_v (g 40 46)) C iw_X10 rfl (by decide) rfl fl_X10_241 rfl rfl dX10_orders_20 ?_
        refine a_top (w := ii_v ((S.length : Nat) : Int)) (congrArg (fun q => ii_v q) ((h40g 46 (by decide) (by decide)).trans hom)) ?_
        refine a_icmp_ge (tgt := 44) C dX10_orders_23 rfl (by unfold ii_B; omega) (by unfold ii_B; omega) (fun h23 => ?_) (fun h23 => ?_)
        · skip
          have htrg : tr_I g Pf := ⟨h37g, hP8, fun j h => hgj j (by omega), hP64⟩
          have hvpg : pj_C g v := pj_same hv (fun o2 h => hfrg o2 (by omega) (by omega) (by omega))
          have r41g : g 41 = f 41 := hfrg 41 (by decide) (by decide) (by decide)
          have r43g : g 43 = f 43 := hfrg 43 (by decide) (by decide) (by decide)
          have r44g : g 44 = f 44 := hfrg 44 (by decide) (by decide) (by decide)
          have r45g : g 45 = f 45 := hfrg 45 (by decide) (by decide) (by decide)
          have r46g : g 46 = f 46 := hfrg 46 (by decide) (by decide) (by decide)
          have r47g : g 47 = f 47 := hfrg 47 (by decide) (by decide) (by decide)
          have rtg : g 40 32 = f 40 32 := h40g 32 (by decide) (by decide)
          have rag : ab_n g b n = ab_n f b n := ab_same (hfrg 57 (by decide) (by decide) (by decide)) (hfrg 63 (by decide) (by decide) (by decide)) (hfrg 60 (by decide) (by decide) (by decide)) b n
          have hBpg : pk_B g b := by unfold pk_B; rw [r41g, r43g, r44g, r45g, r46g, r47g]; exact hB
          refine a_aload_n C dX10_orders_44 rfl ?_
          refine a_iload_n C dX10_orders_45 rfl ?_
          refine a_callV (o := 40) (As := [ii_v ((b : Nat) : Int)]) C (m_runs hl g w b hb hvpg hBpg htrg hPq (by rw [rtg]; exact hnow)) co_X10_runs in_X10 ml_X10_160 im_X10_runs se_X10_runs rfl rfl ar_X10_runs ⟨by decide, by decide, by decide, by decide⟩ rfl (Nat.le_of_ble_eq_true rfl) dX10_orders_46 (a_dF ?_) a_nF
          intro vg2 g2 hvg2
          obtain ⟨hr0, -, hfg2⟩ := hvg2
          rw [r44g, r45g, r46g, r47g] at hr0
          subst hr0
          have hfrg2 : (∀ o2, o2 ≠ 40 → (o2 < 75 ∨ 76 < o2) → (o2 < 83 ∨ 84 < o2) → g2 o2 = f o2) := fun o2 h1 h2 h3 => (hfg2 o2 (by omega)).trans (hfrg o2 h1 h2 h3)
          have h40g2 : (∀ i, i ≠ 37 → i ≠ 45 → g2 40 i = f 40 i) := fun i h1 h2 => (congrFun (hfg2 40 (by decide)) i).trans (h40g i h1 h2)
          have h84g2 : g2 84 = f 84 := (hfg2 84 (by decide)).trans h84g
          have h83g2 : g2 83 = f 83 := (hfg2 83 (by decide)).trans h83g
          have hb45g2 : g2 40 45 = f 40 45 := (congrFun (hfg2 40 (by decide)) 45).trans hb45g
          have htrg2 : tr_I g2 Pf := tr_same htrg (hfg2 40 (by decide)) (hfg2 75 (by decide))
          have hvpg2 : pj_C g2 v := pj_same hv (fun o2 h => hfrg2 o2 (by omega) (by omega) (by omega))
          have r41g2 : g2 41 = f 41 := hfrg2 41 (by decide) (by decide) (by decide)
          have r43g2 : g2 43 = f 43 := hfrg2 43 (by decide) (by decide) (by decide)
          have r44g2 : g2 44 = f 44 := hfrg2 44 (by decide) (by decide) (by decide)
          have r45g2 : g2 45 = f 45 := hfrg2 45 (by decide) (by decide) (by decide)
          have r46g2 : g2 46 = f 46 := hfrg2 46 (by decide) (by decide) (by decide)
          have r47g2 : g2 47 = f 47 := hfrg2 47 (by decide) (by decide) (by decide)
          have rtg2 : g2 40 32 = f 40 32 := h40g2 32 (by decide) (by decide)
          have rag2 : ab_n g2 b n = ab_n f b n := ab_same (hfrg2 57 (by decide) (by decide) (by decide)) (hfrg2 63 (by decide) (by decide) (by decide)) (hfrg2 60 (by decide) (by decide) (by decide)) b n
          have hBpg2 : pk_B g2 b := by unfold pk_B; rw [r41g2, r43g2, r44g2, r45g2, r46g2, r47g2]; exact hB
          have hLb := len_b hB2 hB3 (fun q h => (hv.1 q h).2.2) Pf (f 44 b) (f 45 b) hPq hB4 hB5
          refine a_istore_n (L' := [(0, .ref (ad 40)), (1, ii_v ((b : Nat) : Int)), (2, ii_v ((Pf.length : Nat) : Int)), (3, ii_v (pl_len v (f 46 b) (f 47 b) Pf (f 44 b) (f 45 b)))]) C dX10_orders_49 (by decide) rfl ?_
          refine a_aload_n C dX10_orders_50 rfl ?_
          refine a_iload_n C dX10_orders_51 rfl ?_
          refine a_callV (o := 40) (As := [ii_v ((b : Nat) : Int)]) C (m_fault hl g2 w b hb hvpg2 hBpg2 htrg2 hPq (by rw [rtg2]; exact hnow) n (by rw [h40g2 30 (by decide) (by decide)]; exact hn) hn30 (fun r hr => by rw [hfrg2 57 (by decide) (by decide) (by decide), hfrg2 63 (by decide) (by decide) (by decide), hfrg2 60 (by decide) (by decide) (by decide)]; exact hrid r hr)) co_X10_fault in_X10 ml_X10_186 im_X10_fault se_X10_fault rfl rfl ar_X10_fault ⟨by decide, by decide, by decide, by decide⟩ rfl (Nat.le_of_ble_eq_true rfl) dX10_orders_52 (a_dF ?_) a_nF
          intro vg3 g3 hvg3
          obtain ⟨hr0, -, hfg3⟩ := hvg3
          rw [r41g2, r43g2, r44g2, r45g2, r46g2, r47g2, rtg2, rag2] at hr0
          subst hr0
          have hfrg3 : (∀ o2, o2 ≠ 40 → (o2 < 75 ∨ 76 < o2) → (o2 < 83 ∨ 84 < o2) → g3 o2 = f o2) := fun o2 h1 h2 h3 => (hfg3 o2 (by omega)).trans (hfrg2 o2 h1 h2 h3)
          have h40g3 : (∀ i, i ≠ 37 → i ≠ 45 → g3 40 i = f 40 i) := fun i h1 h2 => (congrFun (hfg3 40 (by decide)) i).trans (h40g2 i h1 h2)
          have h84g3 : g3 84 = f 84 := (hfg3 84 (by decide)).trans h84g2
          have h83g3 : g3 83 = f 83 := (hfg3 83 (by decide)).trans h83g2
          have hb45g3 : g3 40 45 = f 40 45 := (congrFun (hfg3 40 (by decide)) 45).trans hb45g2
          have htrg3 : tr_I g3 Pf := tr_same htrg2 (hfg3 40 (by decide)) (hfg3 75 (by decide))
          have hFb := pl_fault_b v Pf (f 44 b) (f 45 b) (f 40 32) (ab_n f b n) (f 41 b) (f 46 b) (f 47 b) (f 43 b)
          have hsb := hs.2.1
          refine a_if_gt (tgt := 73) C dX10_orders_55 rfl (by unfold ii_B; omega) (fun h55 => ?_) (fun h55 => ?_)
          · skip
            have hno := h55
            refine a_vret C ?_ (by decide) (by decide) dX10_orders_73
            rw [hPost]
            refine ab_F_of ⟨rfl, ?_, fun j _ => congrFun h84g3 j, hfrg3, h40g3⟩
            rw [om_f, om_n (F := pl_fault v Pf (f 44 b) (f 45 b) (f 40 32) (ab_n f b n) (f 41 b) (f 46 b) (f 47 b) (f 43 b)) (A := pl_len v (f 46 b) (f 47 b) Pf (f 44 b) (f 45 b)) rfl rfl (by first | exact Or.inl (by omega) | exact Or.inr (by omega))]
            exact bs_same hs hb45g3 h83g3
          · skip
            refine a_aload_n C dX10_orders_58 rfl ?_
            refine a_get (ci := 11) (i := 45) (v := ii_v (g3 40 45)) C iw_X10 rfl (by decide) rfl fl_X10_244 rfl rfl dX10_orders_59 ?_
            refine a_top (w := ii_v s0.1) (congrArg (fun q => ii_v q) (hb45g3.trans hs.1)) ?_
            have hs1 := hs.1
            refine a_if_lt (tgt := 74) C dX10_orders_62 rfl (by unfold ii_B; omega) (fun h62 => ?_) (fun h62 => ?_)
            · skip
              refine a_aload_n C dX10_orders_74 rfl ?_
              refine a_iload_n C dX10_orders_75 rfl ?_
              refine a_put (ci := 11) (i := 45) C iw_X10 rfl (by decide) rfl tyX10 tyX10_ok nmX10 rfl rfl fl_X10_244 rfl rfl rfl rfl dX10_orders_76 ?_
              obtain ⟨g4, eg4⟩ : ∃ F : Nat → Nat → Int, F = ii_up g3 40 45 (pl_len v (f 46 b) (f 47 b) Pf (f 44 b) (f 45 b)) := ⟨_, rfl⟩
              rw [← eg4]
              have hfrg4 : (∀ o2, o2 ≠ 40 → (o2 < 75 ∨ 76 < o2) → (o2 < 83 ∨ 84 < o2) → g4 o2 = f o2) := fun o2 h1 h2 h3 => by rw [eg4, ii_up_row _ _ h1]; exact hfrg3 o2 h1 h2 h3
              have h40g4 : (∀ i, i ≠ 37 → i ≠ 45 → g4 40 i = f 40 i) := fun i h1 h2 => by rw [eg4, ii_up_k _ _ h2]; exact h40g3 i h1 h2
              have h84g4 : g4 84 = f 84 := by rw [eg4, ii_up_row _ _ (by decide)]; exact h84g3
              have h45g4 : g4 40 45 = pl_len v (f 46 b) (f 47 b) Pf (f 44 b) (f 45 b) := by rw [eg4, ii_up_s]
              refine a_iconst C dX10_orders_79 ?_
              refine a_istore (L' := [(0, .ref (ad 40)), (1, ii_v ((b : Nat) : Int)), (2, ii_v ((Pf.length : Nat) : Int)), (3, ii_v (pl_len v (f 46 b) (f 47 b) Pf (f 44 b) (f 45 b))), (4, ii_v 0)]) C dX10_orders_80 (by decide) rfl ?_
              have loop82 : ∀ (NN82 : Nat) (k : Nat) (g : Nat → Nat → Int), Pf.length - k < NN82 → (k ≤ Pf.length) → (g 40 45 = pl_len v (f 46 b) (f 47 b) Pf (f 44 b) (f 45 b)) → (∀ j, j < k → g 83 j = ((Pf.getD j 0 : Nat) : Int)) → ((∀ o2, o2 ≠ 40 → (o2 < 75 ∨ 76 < o2) → (o2 < 83 ∨ 84 < o2) → g o2 = f o2)) → ((∀ i, i ≠ 37 → i ≠ 45 → g 40 i = f 40 i)) → (g 84 = f 84) → ab_W p l e (ab_rm 7 0 0) s m args below meth c E base 5 (ab_Q below E base Post args s 0 0) ab_x4 ad (g, w) 0 0 82 [(0, .ref (ad 40)), (1, ii_v ((b : Nat) : Int)), (2, ii_v ((Pf.length : Nat) : Int)), (3, ii_v (pl_len v (f 46 b) (f 47 b) Pf (f 44 b) (f 45 b))), (4, ii_v ((k : Nat) : Int))] [] := by
                intro NN82
                induction NN82 with
                | zero => intro k g hNN; exact absurd hNN (Nat.not_lt_zero _)
                | succ NN82 ih82 =>
                  intro k g hNN hk h45g hgj hfrg h40g h84g
                  refine a_iload C dX10_orders_82 rfl ?_
                  refine a_aload_n C dX10_orders_84 rfl ?_
                  refine a_get (ci := 11) (i := 46) (v := ii_v (g 40 46)) C iw_X10 rfl (by decide) rfl fl_X10_241 rfl rfl dX10_orders_85 ?_
                  refine a_top (w := ii_v ((S.length : Nat) : Int)) (congrArg (fun q => ii_v q) ((h40g 46 (by decide) (by decide)).trans hom)) ?_
                  refine a_icmp_ge (tgt := 111) C dX10_orders_88 rfl (by unfold ii_B; omega) (by unfold ii_B; omega) (fun h88 => ?_) (fun h88 => ?_)
                  · skip
                    refine a_vret C ?_ (by decide) (by decide) dX10_orders_111
                    rw [hPost]
                    refine ab_F_of ⟨rfl, ?_, fun j _ => congrFun h84g j, hfrg, h40g⟩
                    rw [om_f, om_y (F := pl_fault v Pf (f 44 b) (f 45 b) (f 40 32) (ab_n f b n) (f 41 b) (f 46 b) (f 47 b) (f 43 b)) (A := pl_len v (f 46 b) (f 47 b) Pf (f 44 b) (f 45 b)) rfl rfl (by omega) (by omega)]
                    exact ⟨h45g, ⟨by show -1 ≤ pl_len v (f 46 b) (f 47 b) Pf (f 44 b) (f 45 b); omega, by show pl_len v (f 46 b) (f 47 b) Pf (f 44 b) (f 45 b) ≤ 1000; omega⟩, fun _ => ⟨hPl, fun j h => hgj j (by omega)⟩⟩
                  · skip
                    refine a_aload_n C dX10_orders_91 rfl ?_
                    refine a_get (ci := 11) (i := 43) (v := .ref (ad 83)) C iw_X10 rfl (by decide) rfl fl_X10_108 rfl rfl dX10_orders_92 ?_
                    refine a_iload C dX10_orders_95 rfl ?_
                    refine a_aload_n C dX10_orders_97 rfl ?_
                    refine a_get (ci := 11) (i := 44) (v := .ref (ad 84)) C iw_X10 rfl (by decide) rfl fl_X10_111 rfl rfl dX10_orders_98 ?_
                    refine a_iload C dX10_orders_101 rfl ?_
                    refine a_iald (o := 84) (N := 8) k C dX10_orders_103 rfl (by omega) (by omega) (by decide) ?_
                    refine a_top (w := ii_v (g 84 k)) rfl ?_
                    refine a_top (w := ii_v ((Pf.getD k 0 : Nat) : Int)) (congrArg (fun q => ii_v q) ((congrFun (h84g) k).trans (hP k (by omega)))) ?_
                    refine a_iast (o := 83) (N := 8) k C dX10_orders_104 rfl (by omega) (by omega) (by decide) ?_
                    obtain ⟨g5, eg5⟩ : ∃ F : Nat → Nat → Int, F = ii_up g 83 k (((Pf.getD k 0) : Nat) : Int) := ⟨_, rfl⟩
                    rw [← eg5]
                    refine a_iinc (L' := [(0, .ref (ad 40)), (1, ii_v ((b : Nat) : Int)), (2, ii_v ((Pf.length : Nat) : Int)), (3, ii_v (pl_len v (f 46 b) (f 47 b) Pf (f 44 b) (f 45 b))), (4, ii_v (((k : Nat) : Int) + 1))]) C dX10_orders_105 rfl (by decide) rfl ?_
                    refine a_goto (tgt := 82) C dX10_orders_108 rfl ?_
                    exact ih82 (k + 1) g5 (by omega) (by omega) (by rw [eg5, ii_up_o _ _ _ (by decide)]; exact h45g) (by rw [eg5]; exact lt_s (fun j h => by rw [ii_up_k _ _ (by omega)]; exact hgj j h) (ii_up_s _ _ _ _)) (fun o2 h1 h2 h3 => by rw [eg5, ii_up_row _ _ (by omega)]; exact hfrg o2 h1 h2 h3) (fun i h1 h2 => by rw [eg5, ii_up_o _ _ _ (by decide)]; exact h40g i h1 h2) (by rw [eg5, ii_up_row _ _ (by decide)]; exact h84g)
              exact loop82 (_ + 1) 0 g4 (Nat.lt_succ_self _) (Nat.zero_le _) h45g4 (fun j h => absurd h (Nat.not_lt_zero j)) hfrg4 h40g4 h84g4
            · skip
              refine a_iload_n C dX10_orders_65 rfl ?_
              refine a_aload_n C dX10_orders_66 rfl ?_
              refine a_get (ci := 11) (i := 45) (v := ii_v (g3 40 45)) C iw_X10 rfl (by decide) rfl fl_X10_244 rfl rfl dX10_orders_67 ?_
              refine a_top (w := ii_v s0.1) (congrArg (fun q => ii_v q) (hb45g3.trans hs.1)) ?_
              refine a_icmp_lt (tgt := 74) C dX10_orders_70 rfl (by unfold ii_B; omega) (by unfold ii_B; omega) (fun h70 => ?_) (fun h70 => ?_)
              · skip
                refine a_aload_n C dX10_orders_74 rfl ?_
                refine a_iload_n C dX10_orders_75 rfl ?_
                refine a_put (ci := 11) (i := 45) C iw_X10 rfl (by decide) rfl tyX10 tyX10_ok nmX10 rfl rfl fl_X10_244 rfl rfl rfl rfl dX10_orders_76 ?_
                obtain ⟨g6, eg6⟩ : ∃ F : Nat → Nat → Int, F = ii_up g3 40 45 (pl_len v (f 46 b) (f 47 b) Pf (f 44 b) (f 45 b)) := ⟨_, rfl⟩
                rw [← eg6]
                have hfrg6 : (∀ o2, o2 ≠ 40 → (o2 < 75 ∨ 76 < o2) → (o2 < 83 ∨ 84 < o2) → g6 o2 = f o2) := fun o2 h1 h2 h3 => by rw [eg6, ii_up_row _ _ h1]; exact hfrg3 o2 h1 h2 h3
                have h40g6 : (∀ i, i ≠ 37 → i ≠ 45 → g6 40 i = f 40 i) := fun i h1 h2 => by rw [eg6, ii_up_k _ _ h2]; exact h40g3 i h1 h2
                have h84g6 : g6 84 = f 84 := by rw [eg6, ii_up_row _ _ (by decide)]; exact h84g3
                have h45g6 : g6 40 45 = pl_len v (f 46 b) (f 47 b) Pf (f 44 b) (f 45 b) := by rw [eg6, ii_up_s]
                refine a_iconst C dX10_orders_79 ?_
                refine a_istore (L' := [(0, .ref (ad 40)), (1, ii_v ((b : Nat) : Int)), (2, ii_v ((Pf.length : Nat) : Int)), (3, ii_v (pl_len v (f 46 b) (f 47 b) Pf (f 44 b) (f 45 b))), (4, ii_v 0)]) C dX10_orders_80 (by decide) rfl ?_
                have loop82 : ∀ (NN82 : Nat) (k : Nat) (g : Nat → Nat → Int), Pf.length - k < NN82 → (k ≤ Pf.length) → (g 40 45 = pl_len v (f 46 b) (f 47 b) Pf (f 44 b) (f 45 b)) → (∀ j, j < k → g 83 j = ((Pf.getD j 0 : Nat) : Int)) → ((∀ o2, o2 ≠ 40 → (o2 < 75 ∨ 76 < o2) → (o2 < 83 ∨ 84 < o2) → g o2 = f o2)) → ((∀ i, i ≠ 37 → i ≠ 45 → g 40 i = f 40 i)) → (g 84 = f 84) → ab_W p l e (ab_rm 7 0 0) s m args below meth c E base 5 (ab_Q below E base Post args s 0 0) ab_x4 ad (g, w) 0 0 82 [(0, .ref (ad 40)), (1, ii_v ((b : Nat) : Int)), (2, ii_v ((Pf.length : Nat) : Int)), (3, ii_v (pl_len v (f 46 b) (f 47 b) Pf (f 44 b) (f 45 b))), (4, ii_v ((k : Nat) : Int))] [] := by
                  intro NN82
                  induction NN82 with
                  | zero => intro k g hNN; exact absurd hNN (Nat.not_lt_zero _)
                  | succ NN82 ih82 =>
                    intro k g hNN hk h45g hgj hfrg h40g h84g
                    refine a_iload C dX10_orders_82 rfl ?_
                    refine a_aload_n C dX10_orders_84 rfl ?_
                    refine a_get (ci := 11) (i := 46) (v := ii_v (g 40 46)) C iw_X10 rfl (by decide) rfl fl_X10_241 rfl rfl dX10_orders_85 ?_
                    refine a_top (w := ii_v ((S.length : Nat) : Int)) (congrArg (fun q => ii_v q) ((h40g 46 (by decide) (by decide)).trans hom)) ?_
                    refine a_icmp_ge (tgt := 111) C dX10_orders_88 rfl (by unfold ii_B; omega) (by unfold ii_B; omega) (fun h88 => ?_) (fun h88 => ?_)
                    · skip
                      refine a_vret C ?_ (by decide) (by decide) dX10_orders_111
                      rw [hPost]
                      refine ab_F_of ⟨rfl, ?_, fun j _ => congrFun h84g j, hfrg, h40g⟩
                      rw [om_f, om_y (F := pl_fault v Pf (f 44 b) (f 45 b) (f 40 32) (ab_n f b n) (f 41 b) (f 46 b) (f 47 b) (f 43 b)) (A := pl_len v (f 46 b) (f 47 b) Pf (f 44 b) (f 45 b)) rfl rfl (by omega) (by omega)]
                      exact ⟨h45g, ⟨by show -1 ≤ pl_len v (f 46 b) (f 47 b) Pf (f 44 b) (f 45 b); omega, by show pl_len v (f 46 b) (f 47 b) Pf (f 44 b) (f 45 b) ≤ 1000; omega⟩, fun _ => ⟨hPl, fun j h => hgj j (by omega)⟩⟩
                    · skip
                      refine a_aload_n C dX10_orders_91 rfl ?_
                      refine a_get (ci := 11) (i := 43) (v := .ref (ad 83)) C iw_X10 rfl (by decide) rfl fl_X10_108 rfl rfl dX10_orders_92 ?_
                      refine a_iload C dX10_orders_95 rfl ?_
                      refine a_aload_n C dX10_orders_97 rfl ?_
                      refine a_get (ci := 11) (i := 44) (v := .ref (ad 84)) C iw_X10 rfl (by decide) rfl fl_X10_111 rfl rfl dX10_orders_98 ?_
                      refine a_iload C dX10_orders_101 rfl ?_
                      refine a_iald (o := 84) (N := 8) k C dX10_orders_103 rfl (by omega) (by omega) (by decide) ?_
                      refine a_top (w := ii_v (g 84 k)) rfl ?_
                      refine a_top (w := ii_v ((Pf.getD k 0 : Nat) : Int)) (congrArg (fun q => ii_v q) ((congrFun (h84g) k).trans (hP k (by omega)))) ?_
                      refine a_iast (o := 83) (N := 8) k C dX10_orders_104 rfl (by omega) (by omega) (by decide) ?_
                      obtain ⟨g7, eg7⟩ : ∃ F : Nat → Nat → Int, F = ii_up g 83 k (((Pf.getD k 0) : Nat) : Int) := ⟨_, rfl⟩
                      rw [← eg7]
                      refine a_iinc (L' := [(0, .ref (ad 40)), (1, ii_v ((b : Nat) : Int)), (2, ii_v ((Pf.length : Nat) : Int)), (3, ii_v (pl_len v (f 46 b) (f 47 b) Pf (f 44 b) (f 45 b))), (4, ii_v (((k : Nat) : Int) + 1))]) C dX10_orders_105 rfl (by decide) rfl ?_
                      refine a_goto (tgt := 82) C dX10_orders_108 rfl ?_
                      exact ih82 (k + 1) g7 (by omega) (by omega) (by rw [eg7, ii_up_o _ _ _ (by decide)]; exact h45g) (by rw [eg7]; exact lt_s (fun j h => by rw [ii_up_k _ _ (by omega)]; exact hgj j h) (ii_up_s _ _ _ _)) (fun o2 h1 h2 h3 => by rw [eg7, ii_up_row _ _ (by omega)]; exact hfrg o2 h1 h2 h3) (fun i h1 h2 => by rw [eg7, ii_up_o _ _ _ (by decide)]; exact h40g i h1 h2) (by rw [eg7, ii_up_row _ _ (by decide)]; exact h84g)
                exact loop82 (_ + 1) 0 g6 (Nat.lt_succ_self _) (Nat.zero_le _) h45g6 (fun j h => absurd h (Nat.not_lt_zero j)) hfrg6 h40g6 h84g6
              · skip
                refine a_vret C ?_ (by decide) (by decide) dX10_orders_73
                rw [hPost]
                refine ab_F_of ⟨rfl, ?_, fun j _ => congrFun h84g3 j, hfrg3, h40g3⟩
                rw [om_f, om_n (F := pl_fault v Pf (f 44 b) (f 45 b) (f 40 32) (ab_n f b n) (f 41 b) (f 46 b) (f 47 b) (f 43 b)) (A := pl_len v (f 46 b) (f 47 b) Pf (f 44 b) (f 45 b)) rfl rfl (by first | exact Or.inl (by omega) | exact Or.inr (by omega))]
                exact bs_same hs hb45g3 h83g3
        · skip
          refine a_aload_n C dX10_orders_26 rfl ?_
          refine a_get (ci := 11) (i := 35) (v := .ref (ad 75)) C iw_X10 rfl (by decide) rfl fl_X10_102 rfl rfl dX10_orders_27 ?_
          refine a_iload_n C dX10_orders_30 rfl ?_
          refine a_aload_n C dX10_orders_31 rfl ?_
          refine a_get (ci := 11) (i := 44) (v := .ref (ad 84)) C iw_X10 rfl (by decide) rfl fl_X10_111 rfl rfl dX10_orders_32 ?_
          refine a_iload_n C dX10_orders_35 rfl ?_
          refine a_iald (o := 84) (N := 8) k C dX10_orders_36 rfl (by omega) (by omega) (by decide) ?_
          refine a_top (w := ii_v (g 84 k)) rfl ?_
          refine a_top (w := ii_v ((Pf.getD k 0 : Nat) : Int)) (congrArg (fun q => ii_v q) ((congrFun (h84g) k).trans (hP k (by omega)))) ?_
          refine a_iast (o := 75) (N := 8) k C dX10_orders_37 rfl (by omega) (by omega) (by decide) ?_
          obtain ⟨g8, eg8⟩ : ∃ F : Nat → Nat → Int, F = ii_up g 75 k (((Pf.getD k 0) : Nat) : Int) := ⟨_, rfl⟩
          rw [← eg8]
          refine a_iinc (L' := [(0, .ref (ad 40)), (1, ii_v ((b : Nat) : Int)), (2, ii_v ((Pf.length : Nat) : Int)), (3, ii_v (((k : Nat) : Int) + 1))]) C dX10_orders_38 rfl (by decide) rfl ?_
          refine a_goto (tgt := 18) C dX10_orders_41 rfl ?_
          exact ih18 (k + 1) g8 (by omega) (by omega) (by rw [eg8, ii_up_o _ _ _ (by decide)]; exact h37g) (by rw [eg8]; exact lt_s (fun j h => by rw [ii_up_k _ _ (by omega)]; exact hgj j h) (ii_up_s _ _ _ _)) (fun o2 h1 h2 h3 => by rw [eg8, ii_up_row _ _ (by omega)]; exact hfrg o2 h1 h2 h3) (fun i h1 h2 => by rw [eg8, ii_up_o _ _ _ (by decide)]; exact h40g i h1 h2) (by rw [eg8, ii_up_row _ _ (by decide)]; exact h84g) (by rw [eg8, ii_up_row _ _ (by decide)]; exact h83g) (by rw [eg8, ii_up_o _ _ _ (by decide)]; exact hb45g)
    exact loop18 (_ + 1) 0 g1 (Nat.lt_succ_self _) (Nat.zero_le _) h37g1 (fun j h => absurd h (Nat.not_lt_zero j)) hfrg1 h40g1 h84g1 h83g1 hb45g1
set_option maxRecDepth 20000 in
set_option maxHeartbeats 2000000 in
theorem m_orders1 {l : Launch} {E : ab_E} {base : Nat} (hl : l.stackTraces = false) {ad : Nat → Nat} (f : Nat → Nat → Int) (w : Nat × Nat × Int64 × UInt64) (b : Nat) (hb : b < 4) {v : Nat → Nat → Int} (hv : pj_C f v) (hB : pk_B f b) (hnow : 0 ≤ f 40 32 ∧ f 40 32 ≤ 100000) (n : Nat) (hn : f 40 30 = (n : Int)) (hn30 : n ≤ 30) (hrid : ∀ r, r < n → (0 ≤ f 57 r ∧ f 57 r ≤ 6) ∧ st_ok (f 63 r) ∧ -1 ≤ f 60 r ∧ f 60 r ≤ 10) {S : List Nat} (hS : mt_I f b S) (hS6 : S.length ≤ 6) (hom : f 40 46 = (S.length : Int)) {Pf : List Nat} (hP : ∀ j, j < Pf.length → f 84 j = ((Pf.getD j 0 : Nat) : Int)) (hP8 : Pf.length ≤ 8) (hP64 : ∀ j, j < Pf.length → Pf.getD j 0 < 64) (hPq : ∀ j, j < Pf.length → Pf.getD j 0 / 2 ≤ 30) (hPL : Pf.length + 1 = S.length) (s0 : om_S) (hs : bs_I f S.length s0)  : ab_M l E base yX10_orders cX10_orders 5 none 8 0 0 [.ref (ad 40), ii_v ((b : Nat) : Int), ii_v ((Pf.length : Nat) : Int)] ab_x4 ad (f, w) (ab_F ad w (fun ov g => ov = none ∧ bs_I g S.length (om_f v (mB f n b) (f 40 32) S n 1 Pf s0) ∧ (∀ j, j < Pf.length → g 84 j = f 84 j) ∧ (∀ o2, o2 ≠ 40 → (o2 < 75 ∨ 76 < o2) → (o2 < 83 ∨ 84 < o2) → g o2 = f o2) ∧ (∀ i, i ≠ 37 → i ≠ 45 → g 40 i = f 40 i))) := by
  obtain ⟨Post, hPost⟩ : ∃ P : ab_P, P = (ab_F ad w (fun ov g => ov = none ∧ bs_I g S.length (om_f v (mB f n b) (f 40 32) S n 1 Pf s0) ∧ (∀ j, j < Pf.length → g 84 j = f 84 j) ∧ (∀ o2, o2 ≠ 40 → (o2 < 75 ∨ 76 < o2) → (o2 < 83 ∨ 84 < o2) → g o2 = f o2) ∧ (∀ i, i ≠ 37 → i ≠ 45 → g 40 i = f 40 i))) := ⟨_, rfl⟩
  rw [← hPost]
  refine ab_of RX10 [(0, .ref (ad 40)), (1, ii_v ((b : Nat) : Int)), (2, ii_v ((Pf.length : Nat) : Int))] hl (by decide) rfl (Nat.le_of_ble_eq_true rfl) rfl ?_
  intro p e s m args below meth c C T0 hnm
  obtain ⟨hB1, hB2, hB3, hB4, hB5, hB6⟩ := id hB
  have hPl : Pf.length + 1 = S.length := by omega
  obtain ⟨ST, hST⟩ : ∃ ST : Nat → om_S → om_S, ST = (fun t s => if t ∈ S ∧ ¬ t ∈ Pf ∧ ¬ (¬ t % 2 = 0 ∧ t - 1 ∈ S ∧ ¬ t - 1 ∈ Pf) then om_f v (mB f n b) (f 40 32) S n 0 (Pf ++ [t]) s else s) := ⟨_, rfl⟩
  refine a_iload_n C dX10_orders_0 rfl ?_
  refine a_aload_n C dX10_orders_1 rfl ?_
  refine a_get (ci := 11) (i := 46) (v := ii_v (f 40 46)) C iw_X10 rfl (by decide) rfl fl_X10_241 rfl rfl dX10_orders_2 ?_
  refine a_top (w := ii_v ((S.length : Nat) : Int)) (congrArg (fun q => ii_v q) hom) ?_
  refine a_icmp_ne (tgt := 112) C dX10_orders_5 rfl (by unfold ii_B; omega) (by unfold ii_B; omega) (fun h5 => ?_) (fun h5 => ?_)
  · skip
    refine a_iconst C dX10_orders_112 ?_
    refine a_istore_n (L' := [(0, .ref (ad 40)), (1, ii_v ((b : Nat) : Int)), (2, ii_v ((Pf.length : Nat) : Int)), (3, ii_v 0)]) C dX10_orders_113 (by decide) rfl ?_
    have loop114 : ∀ (NN114 : Nat) (t : Nat) (g : Nat → Nat → Int) (so : om_S), 2 * n - t < NN114 → (t ≤ 2 * n) → (bs_I g S.length so) → (∀ j, j < Pf.length → g 84 j = f 84 j) → ((∀ o2, o2 ≠ 40 → (o2 < 75 ∨ 76 < o2) → (o2 < 83 ∨ 84 < o2) → g o2 = f o2)) → ((∀ i, i ≠ 37 → i ≠ 45 → g 40 i = f 40 i)) → (om_k ST t s0 = so) → ab_W p l e (ab_rm 8 0 0) s m args below meth c E base 5 (ab_Q below E base Post args s 0 0) ab_x4 ad (g, w) 0 0 114 [(0, .ref (ad 40)), (1, ii_v ((b : Nat) : Int)), (2, ii_v ((Pf.length : Nat) : Int)), (3, ii_v ((t : Nat) : Int))] [] := by
      intro NN114
      induction NN114 with
      | zero => intro t g so hNN; exact absurd hNN (Nat.not_lt_zero _)
      | succ NN114 ih114 =>
        intro t g so hNN ht2 hs h84g hfrg h40g hE
        have hmtg : mt_I g b S := mt_same hS (hfrg 51 (by decide) (by decide) (by decide)) (hfrg 52 (by decide) (by decide) (by decide))
        have homg : g 40 46 = (S.length : Int) := (h40g 46 (by decide) (by decide)).trans hom
        have hPg : ∀ j, j < Pf.length → g 84 j = ((Pf.getD j 0 : Nat) : Int) := fun j h => (h84g j h).trans (hP j h)
        refine a_iload_n C dX10_orders_114 rfl ?_
        refine a_iconst C dX10_orders_115 ?_
        refine a_aload_n C dX10_orders_116 rfl ?_
        refine a_get (ci := 11) (i := 30) (v := ii_v (g 40 30)) C iw_X10 rfl (by decide) rfl fl_X10_124 rfl rfl dX10_orders_117 ?_
        refine a_top (w := ii_v ((n : Nat) : Int)) (congrArg (fun q => ii_v q) ((h40g 30 (by decide) (by decide)).trans hn)) ?_
        refine a_imul C dX10_orders_120 ?_
        refine a_icmp_ge (tgt := 198) C dX10_orders_121 rfl (by unfold ii_B; omega) (by unfold ii_B; omega) (fun h121 => ?_) (fun h121 => ?_)
        · skip
          refine a_vret C ?_ (by decide) (by decide) dX10_orders_198
          rw [hPost]
          refine ab_F_of ⟨rfl, ?_, h84g, hfrg, h40g⟩
          rw [om_f, ← hST, show 2 * n = t by omega, hE]
          exact hs
        · skip
          refine a_aload_n C dX10_orders_124 rfl ?_
          refine a_iload_n C dX10_orders_125 rfl ?_
          refine a_iload_n C dX10_orders_126 rfl ?_
          refine a_callV (o := 40) (As := [ii_v ((b : Nat) : Int), ii_v ((t : Nat) : Int)]) C (m_isOnTour hl g w b hb hmtg hS6 homg t (by omega)) co_X10_isOnTour in_X10 ml_X10_247 im_X10_isOnTour se_X10_isOnTour rfl rfl ar_X10_isOnTour ⟨by decide, by decide, by decide, by decide⟩ rfl (Nat.le_of_ble_eq_true rfl) dX10_orders_127 (a_dR ?_) a_nR
          refine a_bif_eq (tgt := 192) C dX10_orders_130 rfl (fun h130 => ?_) (fun h130 => ?_)
          · skip
            refine a_iinc (L' := [(0, .ref (ad 40)), (1, ii_v ((b : Nat) : Int)), (2, ii_v ((Pf.length : Nat) : Int)), (3, ii_v (((t : Nat) : Int) + 1))]) C dX10_orders_192 rfl (by decide) rfl ?_
            refine a_goto (tgt := 114) C dX10_orders_195 rfl ?_
            exact ih114 (t + 1) g so (by omega) (by omega) hs h84g hfrg h40g (by rw [om_k, hE, hST]; exact if_neg (fun z => h130 z.1))
          · skip
            refine a_aload_n C dX10_orders_133 rfl ?_
            refine a_iload_n C dX10_orders_134 rfl ?_
            refine a_iload_n C dX10_orders_135 rfl ?_
            refine a_callV (o := 40) (As := [ii_v ((t : Nat) : Int), ii_v ((Pf.length : Nat) : Int)]) C (m_isTaken hl g w hPg hP8 hP64 t (by omega)) co_X10_isTaken in_X10 ml_X10_250 im_X10_isTaken se_X10_isTaken rfl rfl ar_X10_isTaken ⟨by decide, by decide, by decide, by decide⟩ rfl (Nat.le_of_ble_eq_true rfl) dX10_orders_136 (a_dR ?_) a_nR
            refine a_bif_eq (tgt := 145) C dX10_orders_139 rfl (fun h139 => ?_) (fun h139 => ?_)
            · skip
              refine a_iload_n C dX10_orders_145 rfl ?_
              refine a_callS (As := [ii_v ((t : Nat) : Int)]) C (m_isDrop hl g w t (by omega)) co_X10_isDrop in_X10 ml_X10_135 sc_X10_isDrop ar_X10_isDrop ⟨by decide, by decide, by decide, by decide⟩ rfl (Nat.le_of_ble_eq_true rfl) dX10_orders_146 (a_dR ?_) a_nR
              rw [md_iff (P := t % 2 = 0)]
              refine a_bif_eq (tgt := 177) C dX10_orders_149 rfl (fun h149 => ?_) (fun h149 => ?_)
              · skip
                refine a_aload_n C dX10_orders_177 rfl ?_
                refine a_get (ci := 11) (i := 44) (v := .ref (ad 84)) C iw_X10 rfl (by decide) rfl fl_X10_111 rfl rfl dX10_orders_178 ?_
                refine a_iload_n C dX10_orders_181 rfl ?_
                refine a_iload_n C dX10_orders_182 rfl ?_
                refine a_iast (o := 84) (N := 8) Pf.length C dX10_orders_183 rfl (by omega) (by omega) (by decide) ?_
                obtain ⟨g1, eg1⟩ : ∃ F : Nat → Nat → Int, F = ii_up g 84 Pf.length ((t : Nat) : Int) := ⟨_, rfl⟩
                rw [← eg1]
                have hfrg1 : (∀ o2, o2 ≠ 40 → (o2 < 75 ∨ 76 < o2) → (o2 < 83 ∨ 84 < o2) → g1 o2 = f o2) := fun o2 h1 h2 h3 => by rw [eg1, ii_up_row _ _ (by omega)]; exact hfrg o2 h1 h2 h3
                have h40g1 : (∀ i, i ≠ 37 → i ≠ 45 → g1 40 i = f 40 i) := fun i h1 h2 => by rw [eg1, ii_up_o _ _ _ (by decide)]; exact h40g i h1 h2
                have hvpg1 : pj_C g1 v := pj_same hv (fun o2 h => hfrg1 o2 (by omega) (by omega) (by omega))
                have r41g1 : g1 41 = f 41 := hfrg1 41 (by decide) (by decide) (by decide)
                have r43g1 : g1 43 = f 43 := hfrg1 43 (by decide) (by decide) (by decide)
                have r44g1 : g1 44 = f 44 := hfrg1 44 (by decide) (by decide) (by decide)
                have r45g1 : g1 45 = f 45 := hfrg1 45 (by decide) (by decide) (by decide)
                have r46g1 : g1 46 = f 46 := hfrg1 46 (by decide) (by decide) (by decide)
                have r47g1 : g1 47 = f 47 := hfrg1 47 (by decide) (by decide) (by decide)
                have rtg1 : g1 40 32 = f 40 32 := h40g1 32 (by decide) (by decide)
                have rag1 : ab_n g1 b n = ab_n f b n := ab_same (hfrg1 57 (by decide) (by decide) (by decide)) (hfrg1 63 (by decide) (by decide) (by decide)) (hfrg1 60 (by decide) (by decide) (by decide)) b n
                have hBpg1 : pk_B g1 b := by unfold pk_B; rw [r41g1, r43g1, r44g1, r45g1, r46g1, r47g1]; exact hB
                have hmtg1 : mt_I g1 b S := mt_same hS (hfrg1 51 (by decide) (by decide) (by decide)) (hfrg1 52 (by decide) (by decide) (by decide))
                have homg1 : g1 40 46 = (S.length : Int) := (h40g1 46 (by decide) (by decide)).trans hom
                have hsg1 : bs_I g1 S.length so := bs_same hs (by rw [eg1, ii_up_o _ _ _ (by decide)]) (by rw [eg1]; exact ii_up_row _ _ (by decide))
                have hPx : ∀ j, j < (Pf ++ [t]).length → g1 84 j = (((Pf ++ [t]).getD j 0 : Nat) : Int) := fun j h => by rw [eg1]; exact tk_app hPg j h
                have hP64x : ∀ j, j < (Pf ++ [t]).length → (Pf ++ [t]).getD j 0 < 64 := tk_all (p := fun q => q < 64) hP64 (by show t < 64; omega)
                have hPqx : ∀ j, j < (Pf ++ [t]).length → (Pf ++ [t]).getD j 0 / 2 ≤ 30 := tk_all (p := fun q => q / 2 ≤ 30) hPq (by show t / 2 ≤ 30; omega)
                have hmB : mB g1 n b = mB f n b := mB_same r41g1 r43g1 r44g1 r45g1 r46g1 r47g1 rag1
                refine a_aload_n C dX10_orders_184 rfl ?_
                refine a_iload_n C dX10_orders_185 rfl ?_
                refine a_iload_n C dX10_orders_186 rfl ?_
                refine a_iconst C dX10_orders_187 ?_
                refine a_iadd C dX10_orders_188 ?_
                rw [show ((Pf.length : Nat) : Int) + 1 = (((Pf ++ [t]).length : Nat) : Int) by simp]
                refine a_callV (o := 40) (As := [ii_v ((b : Nat) : Int), ii_v (((Pf ++ [t]).length : Nat) : Int)]) C (m_orders0 hl g1 w b hb hvpg1 hBpg1 (by rw [rtg1]; exact hnow) n (by rw [h40g1 30 (by decide) (by decide)]; exact hn) hn30 (fun r hr => by rw [hfrg1 57 (by decide) (by decide) (by decide), hfrg1 63 (by decide) (by decide) (by decide), hfrg1 60 (by decide) (by decide) (by decide)]; exact hrid r hr) hmtg1 hS6 homg1 hPx (by simp; omega) hP64x hPqx (by simp; omega) so hsg1) co_X10_orders in_X10 ml_X10_253 im_X10_orders se_X10_orders rfl rfl ar_X10_orders ⟨by decide, by decide, by decide, by decide⟩ rfl (Nat.le_of_ble_eq_true rfl) dX10_orders_189 (a_dF ?_) a_nF
                intro vg2 g2 hvg2
                obtain ⟨rfl, hsg2, h8xg2, hfg2, h4g2⟩ := hvg2
                rw [hmB, rtg1] at hsg2
                have hfrg2 : (∀ o2, o2 ≠ 40 → (o2 < 75 ∨ 76 < o2) → (o2 < 83 ∨ 84 < o2) → g2 o2 = f o2) := fun o2 h1 h2 h3 => (hfg2 o2 h1 h2 h3).trans (hfrg1 o2 h1 h2 h3)
                have h40g2 : (∀ i, i ≠ 37 → i ≠ 45 → g2 40 i = f 40 i) := fun i h1 h2 => (h4g2 i h1 h2).trans (h40g1 i h1 h2)
                have h84g2 : ∀ j, j < Pf.length → g2 84 j = f 84 j := fun j h => (h8xg2 j (by simp; omega)).trans ((by rw [eg1, ii_up_k _ _ (by omega)] : g1 84 j = g 84 j).trans (h84g j h))
                refine a_iinc (L' := [(0, .ref (ad 40)), (1, ii_v ((b : Nat) : Int)), (2, ii_v ((Pf.length : Nat) : Int)), (3, ii_v (((t : Nat) : Int) + 1))]) C dX10_orders_192 rfl (by decide) rfl ?_
                refine a_goto (tgt := 114) C dX10_orders_195 rfl ?_
                exact ih114 (t + 1) g2 (om_f v (mB f n b) (f 40 32) S n 0 (Pf ++ [t]) so) (by omega) (by omega) hsg2 h84g2 hfrg2 h40g2 (by rw [om_k, hE, hST]; exact if_pos ⟨h130, h139, (fun z => h149 z.1)⟩)
              · skip
                refine a_aload_n C dX10_orders_152 rfl ?_
                refine a_iload_n C dX10_orders_153 rfl ?_
                refine a_iload_n C dX10_orders_154 rfl ?_
                refine a_iconst C dX10_orders_155 ?_
                refine a_isub C dX10_orders_156 ?_
                rw [show ((t : Nat) : Int) - 1 = ((t - 1 : Nat) : Int) by omega]
                refine a_callV (o := 40) (As := [ii_v ((b : Nat) : Int), ii_v (((t - 1) : Nat) : Int)]) C (m_isOnTour hl g w b hb hmtg hS6 homg (t - 1) (by omega)) co_X10_isOnTour in_X10 ml_X10_247 im_X10_isOnTour se_X10_isOnTour rfl rfl ar_X10_isOnTour ⟨by decide, by decide, by decide, by decide⟩ rfl (Nat.le_of_ble_eq_true rfl) dX10_orders_157 (a_dR ?_) a_nR
                refine a_bif_eq (tgt := 177) C dX10_orders_160 rfl (fun h160 => ?_) (fun h160 => ?_)
                · skip
                  refine a_aload_n C dX10_orders_177 rfl ?_
                  refine a_get (ci := 11) (i := 44) (v := .ref (ad 84)) C iw_X10 rfl (by decide) rfl fl_X10_111 rfl rfl dX10_orders_178 ?_
                  refine a_iload_n C dX10_orders_181 rfl ?_
                  refine a_iload_n C dX10_orders_182 rfl ?_
                  refine a_iast (o := 84) (N := 8) Pf.length C dX10_orders_183 rfl (by omega) (by omega) (by decide) ?_
                  obtain ⟨g3, eg3⟩ : ∃ F : Nat → Nat → Int, F = ii_up g 84 Pf.length ((t : Nat) : Int) := ⟨_, rfl⟩
                  rw [← eg3]
                  have hfrg3 : (∀ o2, o2 ≠ 40 → (o2 < 75 ∨ 76 < o2) → (o2 < 83 ∨ 84 < o2) → g3 o2 = f o2) := fun o2 h1 h2 h3 => by rw [eg3, ii_up_row _ _ (by omega)]; exact hfrg o2 h1 h2 h3
                  have h40g3 : (∀ i, i ≠ 37 → i ≠ 45 → g3 40 i = f 40 i) := fun i h1 h2 => by rw [eg3, ii_up_o _ _ _ (by decide)]; exact h40g i h1 h2
                  have hvpg3 : pj_C g3 v := pj_same hv (fun o2 h => hfrg3 o2 (by omega) (by omega) (by omega))
                  have r41g3 : g3 41 = f 41 := hfrg3 41 (by decide) (by decide) (by decide)
                  have r43g3 : g3 43 = f 43 := hfrg3 43 (by decide) (by decide) (by decide)
                  have r44g3 : g3 44 = f 44 := hfrg3 44 (by decide) (by decide) (by decide)
                  have r45g3 : g3 45 = f 45 := hfrg3 45 (by decide) (by decide) (by decide)
                  have r46g3 : g3 46 = f 46 := hfrg3 46 (by decide) (by decide) (by decide)
                  have r47g3 : g3 47 = f 47 := hfrg3 47 (by decide) (by decide) (by decide)
                  have rtg3 : g3 40 32 = f 40 32 := h40g3 32 (by decide) (by decide)
                  have rag3 : ab_n g3 b n = ab_n f b n := ab_same (hfrg3 57 (by decide) (by decide) (by decide)) (hfrg3 63 (by decide) (by decide) (by decide)) (hfrg3 60 (by decide) (by decide) (by decide)) b n
                  have hBpg3 : pk_B g3 b := by unfold pk_B; rw [r41g3, r43g3, r44g3, r45g3, r46g3, r47g3]; exact hB
                  have hmtg3 : mt_I g3 b S := mt_same hS (hfrg3 51 (by decide) (by decide) (by decide)) (hfrg3 52 (by decide) (by decide) (by decide))
                  have homg3 : g3 40 46 = (S.length : Int) := (h40g3 46 (by decide) (by decide)).trans hom
                  have hsg3 : bs_I g3 S.length so := bs_same hs (by rw [eg3, ii_up_o _ _ _ (by decide)]) (by rw [eg3]; exact ii_up_row _ _ (by decide))
                  have hPx : ∀ j, j < (Pf ++ [t]).length → g3 84 j = (((Pf ++ [t]).getD j 0 : Nat) : Int) := fun j h => by rw [eg3]; exact tk_app hPg j h
                  have hP64x : ∀ j, j < (Pf ++ [t]).length → (Pf ++ [t]).getD j 0 < 64 := tk_all (p := fun q => q < 64) hP64 (by show t < 64; omega)
                  have hPqx : ∀ j, j < (Pf ++ [t]).length → (Pf ++ [t]).getD j 0 / 2 ≤ 30 := tk_all (p := fun q => q / 2 ≤ 30) hPq (by show t / 2 ≤ 30; omega)
                  have hmB : mB g3 n b = mB f n b := mB_same r41g3 r43g3 r44g3 r45g3 r46g3 r47g3 rag3
                  refine a_aload_n C dX10_orders_184 rfl ?_
                  refine a_iload_n C dX10_orders_185 rfl ?_
                  refine a_iload_n C dX10_orders_186 rfl ?_
                  refine a_iconst C dX10_orders_187 ?_
                  refine a_iadd C dX10_orders_188 ?_
                  rw [show ((Pf.length : Nat) : Int) + 1 = (((Pf ++ [t]).length : Nat) : Int) by simp]
                  refine a_callV (o := 40) (As := [ii_v ((b : Nat) : Int), ii_v (((Pf ++ [t]).length : Nat) : Int)]) C (m_orders0 hl g3 w b hb hvpg3 hBpg3 (by rw [rtg3]; exact hnow) n (by rw [h40g3 30 (by decide) (by decide)]; exact hn) hn30 (fun r hr => by rw [hfrg3 57 (by decide) (by decide) (by decide), hfrg3 63 (by decide) (by decide) (by decide), hfrg3 60 (by decide) (by decide) (by decide)]; exact hrid r hr) hmtg3 hS6 homg3 hPx (by simp; omega) hP64x hPqx (by simp; omega) so hsg3) co_X10_orders in_X10 ml_X10_253 im_X10_orders se_X10_orders rfl rfl ar_X10_orders ⟨by decide, by decide, by decide, by decide⟩ rfl (Nat.le_of_ble_eq_true rfl) dX10_orders_189 (a_dF ?_) a_nF
                  intro vg4 g4 hvg4
                  obtain ⟨rfl, hsg4, h8xg4, hfg4, h4g4⟩ := hvg4
                  rw [hmB, rtg3] at hsg4
                  have hfrg4 : (∀ o2, o2 ≠ 40 → (o2 < 75 ∨ 76 < o2) → (o2 < 83 ∨ 84 < o2) → g4 o2 = f o2) := fun o2 h1 h2 h3 => (hfg4 o2 h1 h2 h3).trans (hfrg3 o2 h1 h2 h3)
                  have h40g4 : (∀ i, i ≠ 37 → i ≠ 45 → g4 40 i = f 40 i) := fun i h1 h2 => (h4g4 i h1 h2).trans (h40g3 i h1 h2)
                  have h84g4 : ∀ j, j < Pf.length → g4 84 j = f 84 j := fun j h => (h8xg4 j (by simp; omega)).trans ((by rw [eg3, ii_up_k _ _ (by omega)] : g3 84 j = g 84 j).trans (h84g j h))
                  refine a_iinc (L' := [(0, .ref (ad 40)), (1, ii_v ((b : Nat) : Int)), (2, ii_v ((Pf.length : Nat) : Int)), (3, ii_v (((t : Nat) : Int) + 1))]) C dX10_orders_192 rfl (by decide) rfl ?_
                  refine a_goto (tgt := 114) C dX10_orders_195 rfl ?_
                  exact ih114 (t + 1) g4 (om_f v (mB f n b) (f 40 32) S n 0 (Pf ++ [t]) so) (by omega) (by omega) hsg4 h84g4 hfrg4 h40g4 (by rw [om_k, hE, hST]; exact if_pos ⟨h130, h139, (fun z => h160 z.2.1)⟩)
                · skip
                  refine a_aload_n C dX10_orders_163 rfl ?_
                  refine a_iload_n C dX10_orders_164 rfl ?_
                  refine a_iconst C dX10_orders_165 ?_
                  refine a_isub C dX10_orders_166 ?_
                  rw [show ((t : Nat) : Int) - 1 = ((t - 1 : Nat) : Int) by omega]
                  refine a_iload_n C dX10_orders_167 rfl ?_
                  refine a_callV (o := 40) (As := [ii_v (((t - 1) : Nat) : Int), ii_v ((Pf.length : Nat) : Int)]) C (m_isTaken hl g w hPg hP8 hP64 (t - 1) (by omega)) co_X10_isTaken in_X10 ml_X10_250 im_X10_isTaken se_X10_isTaken rfl rfl ar_X10_isTaken ⟨by decide, by decide, by decide, by decide⟩ rfl (Nat.le_of_ble_eq_true rfl) dX10_orders_168 (a_dR ?_) a_nR
                  refine a_bif_ne (tgt := 177) C dX10_orders_171 rfl (fun h171 => ?_) (fun h171 => ?_)
                  · skip
                    refine a_aload_n C dX10_orders_177 rfl ?_
                    refine a_get (ci := 11) (i := 44) (v := .ref (ad 84)) C iw_X10 rfl (by decide) rfl fl_X10_111 rfl rfl dX10_orders_178 ?_
                    refine a_iload_n C dX10_orders_181 rfl ?_
                    refine a_iload_n C dX10_orders_182 rfl ?_
                    refine a_iast (o := 84) (N := 8) Pf.length C dX10_orders_183 rfl (by omega) (by omega) (by decide) ?_
                    obtain ⟨g5, eg5⟩ : ∃ F : Nat → Nat → Int, F = ii_up g 84 Pf.length ((t : Nat) : Int) := ⟨_, rfl⟩
                    rw [← eg5]
                    have hfrg5 : (∀ o2, o2 ≠ 40 → (o2 < 75 ∨ 76 < o2) → (o2 < 83 ∨ 84 < o2) → g5 o2 = f o2) := fun o2 h1 h2 h3 => by rw [eg5, ii_up_row _ _ (by omega)]; exact hfrg o2 h1 h2 h3
                    have h40g5 : (∀ i, i ≠ 37 → i ≠ 45 → g5 40 i = f 40 i) := fun i h1 h2 => by rw [eg5, ii_up_o _ _ _ (by decide)]; exact h40g i h1 h2
                    have hvpg5 : pj_C g5 v := pj_same hv (fun o2 h => hfrg5 o2 (by omega) (by omega) (by omega))
                    have r41g5 : g5 41 = f 41 := hfrg5 41 (by decide) (by decide) (by decide)
                    have r43g5 : g5 43 = f 43 := hfrg5 43 (by decide) (by decide) (by decide)
                    have r44g5 : g5 44 = f 44 := hfrg5 44 (by decide) (by decide) (by decide)
                    have r45g5 : g5 45 = f 45 := hfrg5 45 (by decide) (by decide) (by decide)
                    have r46g5 : g5 46 = f 46 := hfrg5 46 (by decide) (by decide) (by decide)
                    have r47g5 : g5 47 = f 47 := hfrg5 47 (by decide) (by decide) (by decide)
                    have rtg5 : g5 40 32 = f 40 32 := h40g5 32 (by decide) (by decide)
                    have rag5 : ab_n g5 b n = ab_n f b n := ab_same (hfrg5 57 (by decide) (by decide) (by decide)) (hfrg5 63 (by decide) (by decide) (by decide)) (hfrg5 60 (by decide) (by decide) (by decide)) b n
                    have hBpg5 : pk_B g5 b := by unfold pk_B; rw [r41g5, r43g5, r44g5, r45g5, r46g5, r47g5]; exact hB
                    have hmtg5 : mt_I g5 b S := mt_same hS (hfrg5 51 (by decide) (by decide) (by decide)) (hfrg5 52 (by decide) (by decide) (by decide))
                    have homg5 : g5 40 46 = (S.length : Int) := (h40g5 46 (by decide) (by decide)).trans hom
                    have hsg5 : bs_I g5 S.length so := bs_same hs (by rw [eg5, ii_up_o _ _ _ (by decide)]) (by rw [eg5]; exact ii_up_row _ _ (by decide))
                    have hPx : ∀ j, j < (Pf ++ [t]).length → g5 84 j = (((Pf ++ [t]).getD j 0 : Nat) : Int) := fun j h => by rw [eg5]; exact tk_app hPg j h
                    have hP64x : ∀ j, j < (Pf ++ [t]).length → (Pf ++ [t]).getD j 0 < 64 := tk_all (p := fun q => q < 64) hP64 (by show t < 64; omega)
                    have hPqx : ∀ j, j < (Pf ++ [t]).length → (Pf ++ [t]).getD j 0 / 2 ≤ 30 := tk_all (p := fun q => q / 2 ≤ 30) hPq (by show t / 2 ≤ 30; omega)
                    have hmB : mB g5 n b = mB f n b := mB_same r41g5 r43g5 r44g5 r45g5 r46g5 r47g5 rag5
                    refine a_aload_n C dX10_orders_184 rfl ?_
                    refine a_iload_n C dX10_orders_185 rfl ?_
                    refine a_iload_n C dX10_orders_186 rfl ?_
                    refine a_iconst C dX10_orders_187 ?_
                    refine a_iadd C dX10_orders_188 ?_
                    rw [show ((Pf.length : Nat) : Int) + 1 = (((Pf ++ [t]).length : Nat) : Int) by simp]
                    refine a_callV (o := 40) (As := [ii_v ((b : Nat) : Int), ii_v (((Pf ++ [t]).length : Nat) : Int)]) C (m_orders0 hl g5 w b hb hvpg5 hBpg5 (by rw [rtg5]; exact hnow) n (by rw [h40g5 30 (by decide) (by decide)]; exact hn) hn30 (fun r hr => by rw [hfrg5 57 (by decide) (by decide) (by decide), hfrg5 63 (by decide) (by decide) (by decide), hfrg5 60 (by decide) (by decide) (by decide)]; exact hrid r hr) hmtg5 hS6 homg5 hPx (by simp; omega) hP64x hPqx (by simp; omega) so hsg5) co_X10_orders in_X10 ml_X10_253 im_X10_orders se_X10_orders rfl rfl ar_X10_orders ⟨by decide, by decide, by decide, by decide⟩ rfl (Nat.le_of_ble_eq_true rfl) dX10_orders_189 (a_dF ?_) a_nF
                    intro vg6 g6 hvg6
                    obtain ⟨rfl, hsg6, h8xg6, hfg6, h4g6⟩ := hvg6
                    rw [hmB, rtg5] at hsg6
                    have hfrg6 : (∀ o2, o2 ≠ 40 → (o2 < 75 ∨ 76 < o2) → (o2 < 83 ∨ 84 < o2) → g6 o2 = f o2) := fun o2 h1 h2 h3 => (hfg6 o2 h1 h2 h3).trans (hfrg5 o2 h1 h2 h3)
                    have h40g6 : (∀ i, i ≠ 37 → i ≠ 45 → g6 40 i = f 40 i) := fun i h1 h2 => (h4g6 i h1 h2).trans (h40g5 i h1 h2)
                    have h84g6 : ∀ j, j < Pf.length → g6 84 j = f 84 j := fun j h => (h8xg6 j (by simp; omega)).trans ((by rw [eg5, ii_up_k _ _ (by omega)] : g5 84 j = g 84 j).trans (h84g j h))
                    refine a_iinc (L' := [(0, .ref (ad 40)), (1, ii_v ((b : Nat) : Int)), (2, ii_v ((Pf.length : Nat) : Int)), (3, ii_v (((t : Nat) : Int) + 1))]) C dX10_orders_192 rfl (by decide) rfl ?_
                    refine a_goto (tgt := 114) C dX10_orders_195 rfl ?_
                    exact ih114 (t + 1) g6 (om_f v (mB f n b) (f 40 32) S n 0 (Pf ++ [t]) so) (by omega) (by omega) hsg6 h84g6 hfrg6 h40g6 (by rw [om_k, hE, hST]; exact if_pos ⟨h130, h139, (fun z => z.2.2 h171)⟩)
                  · skip
                    refine a_goto (tgt := 192) C dX10_orders_174 rfl ?_
                    refine a_iinc (L' := [(0, .ref (ad 40)), (1, ii_v ((b : Nat) : Int)), (2, ii_v ((Pf.length : Nat) : Int)), (3, ii_v (((t : Nat) : Int) + 1))]) C dX10_orders_192 rfl (by decide) rfl ?_
                    refine a_goto (tgt := 114) C dX10_orders_195 rfl ?_
                    exact ih114 (t + 1) g so (by omega) (by omega) hs h84g hfrg h40g (by rw [om_k, hE, hST]; exact if_neg (fun z => z.2.2 ⟨h149, h160, h171⟩))
            · skip
              refine a_goto (tgt := 192) C dX10_orders_142 rfl ?_
              refine a_iinc (L' := [(0, .ref (ad 40)), (1, ii_v ((b : Nat) : Int)), (2, ii_v ((Pf.length : Nat) : Int)), (3, ii_v (((t : Nat) : Int) + 1))]) C dX10_orders_192 rfl (by decide) rfl ?_
              refine a_goto (tgt := 114) C dX10_orders_195 rfl ?_
              exact ih114 (t + 1) g so (by omega) (by omega) hs h84g hfrg h40g (by rw [om_k, hE, hST]; exact if_neg (fun z => z.2.1 h139))
    exact loop114 (_ + 1) 0 f s0 (Nat.lt_succ_self _) (Nat.zero_le _) hs (fun _ _ => rfl) (fun _ _ _ _ => rfl) (fun _ _ _ => rfl) rfl
  · skip
    omega
set_option maxRecDepth 20000 in
set_option maxHeartbeats 2000000 in
theorem m_orders2 {l : Launch} {E : ab_E} {base : Nat} (hl : l.stackTraces = false) {ad : Nat → Nat} (f : Nat → Nat → Int) (w : Nat × Nat × Int64 × UInt64) (b : Nat) (hb : b < 4) {v : Nat → Nat → Int} (hv : pj_C f v) (hB : pk_B f b) (hnow : 0 ≤ f 40 32 ∧ f 40 32 ≤ 100000) (n : Nat) (hn : f 40 30 = (n : Int)) (hn30 : n ≤ 30) (hrid : ∀ r, r < n → (0 ≤ f 57 r ∧ f 57 r ≤ 6) ∧ st_ok (f 63 r) ∧ -1 ≤ f 60 r ∧ f 60 r ≤ 10) {S : List Nat} (hS : mt_I f b S) (hS6 : S.length ≤ 6) (hom : f 40 46 = (S.length : Int)) {Pf : List Nat} (hP : ∀ j, j < Pf.length → f 84 j = ((Pf.getD j 0 : Nat) : Int)) (hP8 : Pf.length ≤ 8) (hP64 : ∀ j, j < Pf.length → Pf.getD j 0 < 64) (hPq : ∀ j, j < Pf.length → Pf.getD j 0 / 2 ≤ 30) (hPL : Pf.length + 2 = S.length) (s0 : om_S) (hs : bs_I f S.length s0)  : ab_M l E base yX10_orders cX10_orders 5 none 9 0 0 [.ref (ad 40), ii_v ((b : Nat) : Int), ii_v ((Pf.length : Nat) : Int)] ab_x4 ad (f, w) (ab_F ad w (fun ov g => ov = none ∧ bs_I g S.length (om_f v (mB f n b) (f 40 32) S n 2 Pf s0) ∧ (∀ j, j < Pf.length → g 84 j = f 84 j) ∧ (∀ o2, o2 ≠ 40 → (o2 < 75 ∨ 76 < o2) → (o2 < 83 ∨ 84 < o2) → g o2 = f o2) ∧ (∀ i, i ≠ 37 → i ≠ 45 → g 40 i = f 40 i))) := by
  obtain ⟨Post, hPost⟩ : ∃ P : ab_P, P = (ab_F ad w (fun ov g => ov = none ∧ bs_I g S.length (om_f v (mB f n b) (f 40 32) S n 2 Pf s0) ∧ (∀ j, j < Pf.length → g 84 j = f 84 j) ∧ (∀ o2, o2 ≠ 40 → (o2 < 75 ∨ 76 < o2) → (o2 < 83 ∨ 84 < o2) → g o2 = f o2) ∧ (∀ i, i ≠ 37 → i ≠ 45 → g 40 i = f 40 i))) := ⟨_, rfl⟩
  rw [← hPost]
  refine ab_of RX10 [(0, .ref (ad 40)), (1, ii_v ((b : Nat) : Int)), (2, ii_v ((Pf.length : Nat) : Int))] hl (by decide) rfl (Nat.le_of_ble_eq_true rfl) rfl ?_
  intro p e s m args below meth c C T0 hnm
  obtain ⟨hB1, hB2, hB3, hB4, hB5, hB6⟩ := id hB
  have hPl : Pf.length + 2 = S.length := by omega
  obtain ⟨ST, hST⟩ : ∃ ST : Nat → om_S → om_S, ST = (fun t s => if t ∈ S ∧ ¬ t ∈ Pf ∧ ¬ (¬ t % 2 = 0 ∧ t - 1 ∈ S ∧ ¬ t - 1 ∈ Pf) then om_f v (mB f n b) (f 40 32) S n 1 (Pf ++ [t]) s else s) := ⟨_, rfl⟩
  refine a_iload_n C dX10_orders_0 rfl ?_
  refine a_aload_n C dX10_orders_1 rfl ?_
  refine a_get (ci := 11) (i := 46) (v := ii_v (f 40 46)) C iw_X10 rfl (by decide) rfl fl_X10_241 rfl rfl dX10_orders_2 ?_
  refine a_top (w := ii_v ((S.length : Nat) : Int)) (congrArg (fun q => ii_v q) hom) ?_
  refine a_icmp_ne (tgt := 112) C dX10_orders_5 rfl (by unfold ii_B; omega) (by unfold ii_B; omega) (fun h5 => ?_) (fun h5 => ?_)
  · skip
    refine a_iconst C dX10_orders_112 ?_
    refine a_istore_n (L' := [(0, .ref (ad 40)), (1, ii_v ((b : Nat) : Int)), (2, ii_v ((Pf.length : Nat) : Int)), (3, ii_v 0)]) C dX10_orders_113 (by decide) rfl ?_
    have loop114 : ∀ (NN114 : Nat) (t : Nat) (g : Nat → Nat → Int) (so : om_S), 2 * n - t < NN114 → (t ≤ 2 * n) → (bs_I g S.length so) → (∀ j, j < Pf.length → g 84 j = f 84 j) → ((∀ o2, o2 ≠ 40 → (o2 < 75 ∨ 76 < o2) → (o2 < 83 ∨ 84 < o2) → g o2 = f o2)) → ((∀ i, i ≠ 37 → i ≠ 45 → g 40 i = f 40 i)) → (om_k ST t s0 = so) → ab_W p l e (ab_rm 9 0 0) s m args below meth c E base 5 (ab_Q below E base Post args s 0 0) ab_x4 ad (g, w) 0 0 114 [(0, .ref (ad 40)), (1, ii_v ((b : Nat) : Int)), (2, ii_v ((Pf.length : Nat) : Int)), (3, ii_v ((t : Nat) : Int))] [] := by
      intro NN114
      induction NN114 with
      | zero => intro t g so hNN; exact absurd hNN (Nat.not_lt_zero _)
      | succ NN114 ih114 =>
        intro t g so hNN ht2 hs h84g hfrg h40g hE
        have hmtg : mt_I g b S := mt_same hS (hfrg 51 (by decide) (by decide) (by decide)) (hfrg 52 (by decide) (by decide) (by decide))
        have homg : g 40 46 = (S.length : Int) := (h40g 46 (by decide) (by decide)).trans hom
        have hPg : ∀ j, j < Pf.length → g 84 j = ((Pf.getD j 0 : Nat) : Int) := fun j h => (h84g j h).trans (hP j h)
        refine a_iload_n C dX10_orders_114 rfl ?_
        refine a_iconst C dX10_orders_115 ?_
        refine a_aload_n C dX10_orders_116 rfl ?_
        refine a_get (ci := 11) (i := 30) (v := ii_v (g 40 30)) C iw_X10 rfl (by decide) rfl fl_X10_124 rfl rfl dX10_orders_117 ?_
        refine a_top (w := ii_v ((n : Nat) : Int)) (congrArg (fun q => ii_v q) ((h40g 30 (by decide) (by decide)).trans hn)) ?_
        refine a_imul C dX10_orders_120 ?_
        refine a_icmp_ge (tgt := 198) C dX10_orders_121 rfl (by unfold ii_B; omega) (by unfold ii_B; omega) (fun h121 => ?_) (fun h121 => ?_)
        · skip
          refine a_vret C ?_ (by decide) (by decide) dX10_orders_198
          rw [hPost]
          refine ab_F_of ⟨rfl, ?_, h84g, hfrg, h40g⟩
          rw [om_f, ← hST, show 2 * n = t by omega, hE]
          exact hs
        · skip
          refine a_aload_n C dX10_orders_124 rfl ?_
          refine a_iload_n C dX10_orders_125 rfl ?_
          refine a_iload_n C dX10_orders_126 rfl ?_
          refine a_callV (o := 40) (As := [ii_v ((b : Nat) : Int), ii_v ((t : Nat) : Int)]) C (m_isOnTour hl g w b hb hmtg hS6 homg t (by omega)) co_X10_isOnTour in_X10 ml_X10_247 im_X10_isOnTour se_X10_isOnTour rfl rfl ar_X10_isOnTour ⟨by decide, by decide, by decide, by decide⟩ rfl (Nat.le_of_ble_eq_true rfl) dX10_orders_127 (a_dR ?_) a_nR
          refine a_bif_eq (tgt := 192) C dX10_orders_130 rfl (fun h130 => ?_) (fun h130 => ?_)
          · skip
            refine a_iinc (L' := [(0, .ref (ad 40)), (1, ii_v ((b : Nat) : Int)), (2, ii_v ((Pf.length : Nat) : Int)), (3, ii_v (((t : Nat) : Int) + 1))]) C dX10_orders_192 rfl (by decide) rfl ?_
            refine a_goto (tgt := 114) C dX10_orders_195 rfl ?_
            exact ih114 (t + 1) g so (by omega) (by omega) hs h84g hfrg h40g (by rw [om_k, hE, hST]; exact if_neg (fun z => h130 z.1))
          · skip
            refine a_aload_n C dX10_orders_133 rfl ?_
            refine a_iload_n C dX10_orders_134 rfl ?_
            refine a_iload_n C dX10_orders_135 rfl ?_
            refine a_callV (o := 40) (As := [ii_v ((t : Nat) : Int), ii_v ((Pf.length : Nat) : Int)]) C (m_isTaken hl g w hPg hP8 hP64 t (by omega)) co_X10_isTaken in_X10 ml_X10_250 im_X10_isTaken se_X10_isTaken rfl rfl ar_X10_isTaken ⟨by decide, by decide, by decide, by decide⟩ rfl (Nat.le_of_ble_eq_true rfl) dX10_orders_136 (a_dR ?_) a_nR
            refine a_bif_eq (tgt := 145) C dX10_orders_139 rfl (fun h139 => ?_) (fun h139 => ?_)
            · skip
              refine a_iload_n C dX10_orders_145 rfl ?_
              refine a_callS (As := [ii_v ((t : Nat) : Int)]) C (m_isDrop hl g w t (by omega)) co_X10_isDrop in_X10 ml_X10_135 sc_X10_isDrop ar_X10_isDrop ⟨by decide, by decide, by decide, by decide⟩ rfl (Nat.le_of_ble_eq_true rfl) dX10_orders_146 (a_dR ?_) a_nR
              rw [md_iff (P := t % 2 = 0)]
              refine a_bif_eq (tgt := 177) C dX10_orders_149 rfl (fun h149 => ?_) (fun h149 => ?_)
              · skip
                refine a_aload_n C dX10_orders_177 rfl ?_
                refine a_get (ci := 11) (i := 44) (v := .ref (ad 84)) C iw_X10 rfl (by decide) rfl fl_X10_111 rfl rfl dX10_orders_178 ?_
                refine a_iload_n C dX10_orders_181 rfl ?_
                refine a_iload_n C dX10_orders_182 rfl ?_
                refine a_iast (o := 84) (N := 8) Pf.length C dX10_orders_183 rfl (by omega) (by omega) (by decide) ?_
                obtain ⟨g1, eg1⟩ : ∃ F : Nat → Nat → Int, F = ii_up g 84 Pf.length ((t : Nat) : Int) := ⟨_, rfl⟩
                rw [← eg1]
                have hfrg1 : (∀ o2, o2 ≠ 40 → (o2 < 75 ∨ 76 < o2) → (o2 < 83 ∨ 84 < o2) → g1 o2 = f o2) := fun o2 h1 h2 h3 => by rw [eg1, ii_up_row _ _ (by omega)]; exact hfrg o2 h1 h2 h3
                have h40g1 : (∀ i, i ≠ 37 → i ≠ 45 → g1 40 i = f 40 i) := fun i h1 h2 => by rw [eg1, ii_up_o _ _ _ (by decide)]; exact h40g i h1 h2
                have hvpg1 : pj_C g1 v := pj_same hv (fun o2 h => hfrg1 o2 (by omega) (by omega) (by omega))
                have r41g1 : g1 41 = f 41 := hfrg1 41 (by decide) (by decide) (by decide)
                have r43g1 : g1 43 = f 43 := hfrg1 43 (by decide) (by decide) (by decide)
                have r44g1 : g1 44 = f 44 := hfrg1 44 (by decide) (by decide) (by decide)
                have r45g1 : g1 45 = f 45 := hfrg1 45 (by decide) (by decide) (by decide)
                have r46g1 : g1 46 = f 46 := hfrg1 46 (by decide) (by decide) (by decide)
                have r47g1 : g1 47 = f 47 := hfrg1 47 (by decide) (by decide) (by decide)
                have rtg1 : g1 40 32 = f 40 32 := h40g1 32 (by decide) (by decide)
                have rag1 : ab_n g1 b n = ab_n f b n := ab_same (hfrg1 57 (by decide) (by decide) (by decide)) (hfrg1 63 (by decide) (by decide) (by decide)) (hfrg1 60 (by decide) (by decide) (by decide)) b n
                have hBpg1 : pk_B g1 b := by unfold pk_B; rw [r41g1, r43g1, r44g1, r45g1, r46g1, r47g1]; exact hB
                have hmtg1 : mt_I g1 b S := mt_same hS (hfrg1 51 (by decide) (by decide) (by decide)) (hfrg1 52 (by decide) (by decide) (by decide))
                have homg1 : g1 40 46 = (S.length : Int) := (h40g1 46 (by decide) (by decide)).trans hom
                have hsg1 : bs_I g1 S.length so := bs_same hs (by rw [eg1, ii_up_o _ _ _ (by decide)]) (by rw [eg1]; exact ii_up_row _ _ (by decide))
                have hPx : ∀ j, j < (Pf ++ [t]).length → g1 84 j = (((Pf ++ [t]).getD j 0 : Nat) : Int) := fun j h => by rw [eg1]; exact tk_app hPg j h
                have hP64x : ∀ j, j < (Pf ++ [t]).length → (Pf ++ [t]).getD j 0 < 64 := tk_all (p := fun q => q < 64) hP64 (by show t < 64; omega)
                have hPqx : ∀ j, j < (Pf ++ [t]).length → (Pf ++ [t]).getD j 0 / 2 ≤ 30 := tk_all (p := fun q => q / 2 ≤ 30) hPq (by show t / 2 ≤ 30; omega)
                have hmB : mB g1 n b = mB f n b := mB_same r41g1 r43g1 r44g1 r45g1 r46g1 r47g1 rag1
                refine a_aload_n C dX10_orders_184 rfl ?_
                refine a_iload_n C dX10_orders_185 rfl ?_
                refine a_iload_n C dX10_orders_186 rfl ?_
                refine a_iconst C dX10_orders_187 ?_
                refine a_iadd C dX10_orders_188 ?_
                rw [show ((Pf.length : Nat) : Int) + 1 = (((Pf ++ [t]).length : Nat) : Int) by simp]
                refine a_callV (o := 40) (As := [ii_v ((b : Nat) : Int), ii_v (((Pf ++ [t]).length : Nat) : Int)]) C (m_orders1 hl g1 w b hb hvpg1 hBpg1 (by rw [rtg1]; exact hnow) n (by rw [h40g1 30 (by decide) (by decide)]; exact hn) hn30 (fun r hr => by rw [hfrg1 57 (by decide) (by decide) (by decide), hfrg1 63 (by decide) (by decide) (by decide), hfrg1 60 (by decide) (by decide) (by decide)]; exact hrid r hr) hmtg1 hS6 homg1 hPx (by simp; omega) hP64x hPqx (by simp; omega) so hsg1) co_X10_orders in_X10 ml_X10_253 im_X10_orders se_X10_orders rfl rfl ar_X10_orders ⟨by decide, by decide, by decide, by decide⟩ rfl (Nat.le_of_ble_eq_true rfl) dX10_orders_189 (a_dF ?_) a_nF
                intro vg2 g2 hvg2
                obtain ⟨rfl, hsg2, h8xg2, hfg2, h4g2⟩ := hvg2
                rw [hmB, rtg1] at hsg2
                have hfrg2 : (∀ o2, o2 ≠ 40 → (o2 < 75 ∨ 76 < o2) → (o2 < 83 ∨ 84 < o2) → g2 o2 = f o2) := fun o2 h1 h2 h3 => (hfg2 o2 h1 h2 h3).trans (hfrg1 o2 h1 h2 h3)
                have h40g2 : (∀ i, i ≠ 37 → i ≠ 45 → g2 40 i = f 40 i) := fun i h1 h2 => (h4g2 i h1 h2).trans (h40g1 i h1 h2)
                have h84g2 : ∀ j, j < Pf.length → g2 84 j = f 84 j := fun j h => (h8xg2 j (by simp; omega)).trans ((by rw [eg1, ii_up_k _ _ (by omega)] : g1 84 j = g 84 j).trans (h84g j h))
                refine a_iinc (L' := [(0, .ref (ad 40)), (1, ii_v ((b : Nat) : Int)), (2, ii_v ((Pf.length : Nat) : Int)), (3, ii_v (((t : Nat) : Int) + 1))]) C dX10_orders_192 rfl (by decide) rfl ?_
                refine a_goto (tgt := 114) C dX10_orders_195 rfl ?_
                exact ih114 (t + 1) g2 (om_f v (mB f n b) (f 40 32) S n 1 (Pf ++ [t]) so) (by omega) (by omega) hsg2 h84g2 hfrg2 h40g2 (by rw [om_k, hE, hST]; exact if_pos ⟨h130, h139, (fun z => h149 z.1)⟩)
              · skip
                refine a_aload_n C dX10_orders_152 rfl ?_
                refine a_iload_n C dX10_orders_153 rfl ?_
                refine a_iload_n C dX10_orders_154 rfl ?_
                refine a_iconst C dX10_orders_155 ?_
                refine a_isub C dX10_orders_156 ?_
                rw [show ((t : Nat) : Int) - 1 = ((t - 1 : Nat) : Int) by omega]
                refine a_callV (o := 40) (As := [ii_v ((b : Nat) : Int), ii_v (((t - 1) : Nat) : Int)]) C (m_isOnTour hl g w b hb hmtg hS6 homg (t - 1) (by omega)) co_X10_isOnTour in_X10 ml_X10_247 im_X10_isOnTour se_X10_isOnTour rfl rfl ar_X10_isOnTour ⟨by decide, by decide, by decide, by decide⟩ rfl (Nat.le_of_ble_eq_true rfl) dX10_orders_157 (a_dR ?_) a_nR
                refine a_bif_eq (tgt := 177) C dX10_orders_160 rfl (fun h160 => ?_) (fun h160 => ?_)
                · skip
                  refine a_aload_n C dX10_orders_177 rfl ?_
                  refine a_get (ci := 11) (i := 44) (v := .ref (ad 84)) C iw_X10 rfl (by decide) rfl fl_X10_111 rfl rfl dX10_orders_178 ?_
                  refine a_iload_n C dX10_orders_181 rfl ?_
                  refine a_iload_n C dX10_orders_182 rfl ?_
                  refine a_iast (o := 84) (N := 8) Pf.length C dX10_orders_183 rfl (by omega) (by omega) (by decide) ?_
                  obtain ⟨g3, eg3⟩ : ∃ F : Nat → Nat → Int, F = ii_up g 84 Pf.length ((t : Nat) : Int) := ⟨_, rfl⟩
                  rw [← eg3]
                  have hfrg3 : (∀ o2, o2 ≠ 40 → (o2 < 75 ∨ 76 < o2) → (o2 < 83 ∨ 84 < o2) → g3 o2 = f o2) := fun o2 h1 h2 h3 => by rw [eg3, ii_up_row _ _ (by omega)]; exact hfrg o2 h1 h2 h3
                  have h40g3 : (∀ i, i ≠ 37 → i ≠ 45 → g3 40 i = f 40 i) := fun i h1 h2 => by rw [eg3, ii_up_o _ _ _ (by decide)]; exact h40g i h1 h2
                  have hvpg3 : pj_C g3 v := pj_same hv (fun o2 h => hfrg3 o2 (by omega) (by omega) (by omega))
                  have r41g3 : g3 41 = f 41 := hfrg3 41 (by decide) (by decide) (by decide)
                  have r43g3 : g3 43 = f 43 := hfrg3 43 (by decide) (by decide) (by decide)
                  have r44g3 : g3 44 = f 44 := hfrg3 44 (by decide) (by decide) (by decide)
                  have r45g3 : g3 45 = f 45 := hfrg3 45 (by decide) (by decide) (by decide)
                  have r46g3 : g3 46 = f 46 := hfrg3 46 (by decide) (by decide) (by decide)
                  have r47g3 : g3 47 = f 47 := hfrg3 47 (by decide) (by decide) (by decide)
                  have rtg3 : g3 40 32 = f 40 32 := h40g3 32 (by decide) (by decide)
                  have rag3 : ab_n g3 b n = ab_n f b n := ab_same (hfrg3 57 (by decide) (by decide) (by decide)) (hfrg3 63 (by decide) (by decide) (by decide)) (hfrg3 60 (by decide) (by decide) (by decide)) b n
                  have hBpg3 : pk_B g3 b := by unfold pk_B; rw [r41g3, r43g3, r44g3, r45g3, r46g3, r47g3]; exact hB
                  have hmtg3 : mt_I g3 b S := mt_same hS (hfrg3 51 (by decide) (by decide) (by decide)) (hfrg3 52 (by decide) (by decide) (by decide))
                  have homg3 : g3 40 46 = (S.length : Int) := (h40g3 46 (by decide) (by decide)).trans hom
                  have hsg3 : bs_I g3 S.length so := bs_same hs (by rw [eg3, ii_up_o _ _ _ (by decide)]) (by rw [eg3]; exact ii_up_row _ _ (by decide))
                  have hPx : ∀ j, j < (Pf ++ [t]).length → g3 84 j = (((Pf ++ [t]).getD j 0 : Nat) : Int) := fun j h => by rw [eg3]; exact tk_app hPg j h
                  have hP64x : ∀ j, j < (Pf ++ [t]).length → (Pf ++ [t]).getD j 0 < 64 := tk_all (p := fun q => q < 64) hP64 (by show t < 64; omega)
                  have hPqx : ∀ j, j < (Pf ++ [t]).length → (Pf ++ [t]).getD j 0 / 2 ≤ 30 := tk_all (p := fun q => q / 2 ≤ 30) hPq (by show t / 2 ≤ 30; omega)
                  have hmB : mB g3 n b = mB f n b := mB_same r41g3 r43g3 r44g3 r45g3 r46g3 r47g3 rag3
                  refine a_aload_n C dX10_orders_184 rfl ?_
                  refine a_iload_n C dX10_orders_185 rfl ?_
                  refine a_iload_n C dX10_orders_186 rfl ?_
                  refine a_iconst C dX10_orders_187 ?_
                  refine a_iadd C dX10_orders_188 ?_
                  rw [show ((Pf.length : Nat) : Int) + 1 = (((Pf ++ [t]).length : Nat) : Int) by simp]
                  refine a_callV (o := 40) (As := [ii_v ((b : Nat) : Int), ii_v (((Pf ++ [t]).length : Nat) : Int)]) C (m_orders1 hl g3 w b hb hvpg3 hBpg3 (by rw [rtg3]; exact hnow) n (by rw [h40g3 30 (by decide) (by decide)]; exact hn) hn30 (fun r hr => by rw [hfrg3 57 (by decide) (by decide) (by decide), hfrg3 63 (by decide) (by decide) (by decide), hfrg3 60 (by decide) (by decide) (by decide)]; exact hrid r hr) hmtg3 hS6 homg3 hPx (by simp; omega) hP64x hPqx (by simp; omega) so hsg3) co_X10_orders in_X10 ml_X10_253 im_X10_orders se_X10_orders rfl rfl ar_X10_orders ⟨by decide, by decide, by decide, by decide⟩ rfl (Nat.le_of_ble_eq_true rfl) dX10_orders_189 (a_dF ?_) a_nF
                  intro vg4 g4 hvg4
                  obtain ⟨rfl, hsg4, h8xg4, hfg4, h4g4⟩ := hvg4
                  rw [hmB, rtg3] at hsg4
                  have hfrg4 : (∀ o2, o2 ≠ 40 → (o2 < 75 ∨ 76 < o2) → (o2 < 83 ∨ 84 < o2) → g4 o2 = f o2) := fun o2 h1 h2 h3 => (hfg4 o2 h1 h2 h3).trans (hfrg3 o2 h1 h2 h3)
                  have h40g4 : (∀ i, i ≠ 37 → i ≠ 45 → g4 40 i = f 40 i) := fun i h1 h2 => (h4g4 i h1 h2).trans (h40g3 i h1 h2)
                  have h84g4 : ∀ j, j < Pf.length → g4 84 j = f 84 j := fun j h => (h8xg4 j (by simp; omega)).trans ((by rw [eg3, ii_up_k _ _ (by omega)] : g3 84 j = g 84 j).trans (h84g j h))
                  refine a_iinc (L' := [(0, .ref (ad 40)), (1, ii_v ((b : Nat) : Int)), (2, ii_v ((Pf.length : Nat) : Int)), (3, ii_v (((t : Nat) : Int) + 1))]) C dX10_orders_192 rfl (by decide) rfl ?_
                  refine a_goto (tgt := 114) C dX10_orders_195 rfl ?_
                  exact ih114 (t + 1) g4 (om_f v (mB f n b) (f 40 32) S n 1 (Pf ++ [t]) so) (by omega) (by omega) hsg4 h84g4 hfrg4 h40g4 (by rw [om_k, hE, hST]; exact if_pos ⟨h130, h139, (fun z => h160 z.2.1)⟩)
                · skip
                  refine a_aload_n C dX10_orders_163 rfl ?_
                  refine a_iload_n C dX10_orders_164 rfl ?_
                  refine a_iconst C dX10_orders_165 ?_
                  refine a_isub C dX10_orders_166 ?_
                  rw [show ((t : Nat) : Int) - 1 = ((t - 1 : Nat) : Int) by omega]
                  refine a_iload_n C dX10_orders_167 rfl ?_
                  refine a_callV (o := 40) (As := [ii_v (((t - 1) : Nat) : Int), ii_v ((Pf.length : Nat) : Int)]) C (m_isTaken hl g w hPg hP8 hP64 (t - 1) (by omega)) co_X10_isTaken in_X10 ml_X10_250 im_X10_isTaken se_X10_isTaken rfl rfl ar_X10_isTaken ⟨by decide, by decide, by decide, by decide⟩ rfl (Nat.le_of_ble_eq_true rfl) dX10_orders_168 (a_dR ?_) a_nR
                  refine a_bif_ne (tgt := 177) C dX10_orders_171 rfl (fun h171 => ?_) (fun h171 => ?_)
                  · skip
                    refine a_aload_n C dX10_orders_177 rfl ?_
                    refine a_get (ci := 11) (i := 44) (v := .ref (ad 84)) C iw_X10 rfl (by decide) rfl fl_X10_111 rfl rfl dX10_orders_178 ?_
                    refine a_iload_n C dX10_orders_181 rfl ?_
                    refine a_iload_n C dX10_orders_182 rfl ?_
                    refine a_iast (o := 84) (N := 8) Pf.length C dX10_orders_183 rfl (by omega) (by omega) (by decide) ?_
                    obtain ⟨g5, eg5⟩ : ∃ F : Nat → Nat → Int, F = ii_up g 84 Pf.length ((t : Nat) : Int) := ⟨_, rfl⟩
                    rw [← eg5]
                    have hfrg5 : (∀ o2, o2 ≠ 40 → (o2 < 75 ∨ 76 < o2) → (o2 < 83 ∨ 84 < o2) → g5 o2 = f o2) := fun o2 h1 h2 h3 => by rw [eg5, ii_up_row _ _ (by omega)]; exact hfrg o2 h1 h2 h3
                    have h40g5 : (∀ i, i ≠ 37 → i ≠ 45 → g5 40 i = f 40 i) := fun i h1 h2 => by rw [eg5, ii_up_o _ _ _ (by decide)]; exact h40g i h1 h2
                    have hvpg5 : pj_C g5 v := pj_same hv (fun o2 h => hfrg5 o2 (by omega) (by omega) (by omega))
                    have r41g5 : g5 41 = f 41 := hfrg5 41 (by decide) (by decide) (by decide)
                    have r43g5 : g5 43 = f 43 := hfrg5 43 (by decide) (by decide) (by decide)
                    have r44g5 : g5 44 = f 44 := hfrg5 44 (by decide) (by decide) (by decide)
                    have r45g5 : g5 45 = f 45 := hfrg5 45 (by decide) (by decide) (by decide)
                    have r46g5 : g5 46 = f 46 := hfrg5 46 (by decide) (by decide) (by decide)
                    have r47g5 : g5 47 = f 47 := hfrg5 47 (by decide) (by decide) (by decide)
                    have rtg5 : g5 40 32 = f 40 32 := h40g5 32 (by decide) (by decide)
                    have rag5 : ab_n g5 b n = ab_n f b n := ab_same (hfrg5 57 (by decide) (by decide) (by decide)) (hfrg5 63 (by decide) (by decide) (by decide)) (hfrg5 60 (by decide) (by decide) (by decide)) b n
                    have hBpg5 : pk_B g5 b := by unfold pk_B; rw [r41g5, r43g5, r44g5, r45g5, r46g5, r47g5]; exact hB
                    have hmtg5 : mt_I g5 b S := mt_same hS (hfrg5 51 (by decide) (by decide) (by decide)) (hfrg5 52 (by decide) (by decide) (by decide))
                    have homg5 : g5 40 46 = (S.length : Int) := (h40g5 46 (by decide) (by decide)).trans hom
                    have hsg5 : bs_I g5 S.length so := bs_same hs (by rw [eg5, ii_up_o _ _ _ (by decide)]) (by rw [eg5]; exact ii_up_row _ _ (by decide))
                    have hPx : ∀ j, j < (Pf ++ [t]).length → g5 84 j = (((Pf ++ [t]).getD j 0 : Nat) : Int) := fun j h => by rw [eg5]; exact tk_app hPg j h
                    have hP64x : ∀ j, j < (Pf ++ [t]).length → (Pf ++ [t]).getD j 0 < 64 := tk_all (p := fun q => q < 64) hP64 (by show t < 64; omega)
                    have hPqx : ∀ j, j < (Pf ++ [t]).length → (Pf ++ [t]).getD j 0 / 2 ≤ 30 := tk_all (p := fun q => q / 2 ≤ 30) hPq (by show t / 2 ≤ 30; omega)
                    have hmB : mB g5 n b = mB f n b := mB_same r41g5 r43g5 r44g5 r45g5 r46g5 r47g5 rag5
                    refine a_aload_n C dX10_orders_184 rfl ?_
                    refine a_iload_n C dX10_orders_185 rfl ?_
                    refine a_iload_n C dX10_orders_186 rfl ?_
                    refine a_iconst C dX10_orders_187 ?_
                    refine a_iadd C dX10_orders_188 ?_
                    rw [show ((Pf.length : Nat) : Int) + 1 = (((Pf ++ [t]).length : Nat) : Int) by simp]
                    refine a_callV (o := 40) (As := [ii_v ((b : Nat) : Int), ii_v (((Pf ++ [t]).length : Nat) : Int)]) C (m_orders1 hl g5 w b hb hvpg5 hBpg5 (by rw [rtg5]; exact hnow) n (by rw [h40g5 30 (by decide) (by decide)]; exact hn) hn30 (fun r hr => by rw [hfrg5 57 (by decide) (by decide) (by decide), hfrg5 63 (by decide) (by decide) (by decide), hfrg5 60 (by decide) (by decide) (by decide)]; exact hrid r hr) hmtg5 hS6 homg5 hPx (by simp; omega) hP64x hPqx (by simp; omega) so hsg5) co_X10_orders in_X10 ml_X10_253 im_X10_orders se_X10_orders rfl rfl ar_X10_orders ⟨by decide, by decide, by decide, by decide⟩ rfl (Nat.le_of_ble_eq_true rfl) dX10_orders_189 (a_dF ?_) a_nF
                    intro vg6 g6 hvg6
                    obtain ⟨rfl, hsg6, h8xg6, hfg6, h4g6⟩ := hvg6
                    rw [hmB, rtg5] at hsg6
                    have hfrg6 : (∀ o2, o2 ≠ 40 → (o2 < 75 ∨ 76 < o2) → (o2 < 83 ∨ 84 < o2) → g6 o2 = f o2) := fun o2 h1 h2 h3 => (hfg6 o2 h1 h2 h3).trans (hfrg5 o2 h1 h2 h3)
                    have h40g6 : (∀ i, i ≠ 37 → i ≠ 45 → g6 40 i = f 40 i) := fun i h1 h2 => (h4g6 i h1 h2).trans (h40g5 i h1 h2)
                    have h84g6 : ∀ j, j < Pf.length → g6 84 j = f 84 j := fun j h => (h8xg6 j (by simp; omega)).trans ((by rw [eg5, ii_up_k _ _ (by omega)] : g5 84 j = g 84 j).trans (h84g j h))
                    refine a_iinc (L' := [(0, .ref (ad 40)), (1, ii_v ((b : Nat) : Int)), (2, ii_v ((Pf.length : Nat) : Int)), (3, ii_v (((t : Nat) : Int) + 1))]) C dX10_orders_192 rfl (by decide) rfl ?_
                    refine a_goto (tgt := 114) C dX10_orders_195 rfl ?_
                    exact ih114 (t + 1) g6 (om_f v (mB f n b) (f 40 32) S n 1 (Pf ++ [t]) so) (by omega) (by omega) hsg6 h84g6 hfrg6 h40g6 (by rw [om_k, hE, hST]; exact if_pos ⟨h130, h139, (fun z => z.2.2 h171)⟩)
                  · skip
                    refine a_goto (tgt := 192) C dX10_orders_174 rfl ?_
                    refine a_iinc (L' := [(0, .ref (ad 40)), (1, ii_v ((b : Nat) : Int)), (2, ii_v ((Pf.length : Nat) : Int)), (3, ii_v (((t : Nat) : Int) + 1))]) C dX10_orders_192 rfl (by decide) rfl ?_
                    refine a_goto (tgt := 114) C dX10_orders_195 rfl ?_
                    exact ih114 (t + 1) g so (by omega) (by omega) hs h84g hfrg h40g (by rw [om_k, hE, hST]; exact if_neg (fun z => z.2.2 ⟨h149, h160, h171⟩))
            · skip
              refine a_goto (tgt := 192) C dX10_orders_142 rfl ?_
              refine a_iinc (L' := [(0, .ref (ad 40)), (1, ii_v ((b : Nat) : Int)), (2, ii_v ((Pf.length : Nat) : Int)), (3, ii_v (((t : Nat) : Int) + 1))]) C dX10_orders_192 rfl (by decide) rfl ?_
              refine a_goto (tgt := 114) C dX10_orders_195 rfl ?_
              exact ih114 (t + 1) g so (by omega) (by omega) hs h84g hfrg h40g (by rw [om_k, hE, hST]; exact if_neg (fun z => z.2.1 h139))
    exact loop114 (_ + 1) 0 f s0 (Nat.lt_succ_self _) (Nat.zero_le _) hs (fun _ _ => rfl) (fun _ _ _ _ => rfl) (fun _ _ _ => rfl) rfl
  · skip
    omega
set_option maxRecDepth 20000 in
set_option maxHeartbeats 2000000 in
theorem m_orders3 {l : Launch} {E : ab_E} {base : Nat} (hl : l.stackTraces = false) {ad : Nat → Nat} (f : Nat → Nat → Int) (w : Nat × Nat × Int64 × UInt64) (b : Nat) (hb : b < 4) {v : Nat → Nat → Int} (hv : pj_C f v) (hB : pk_B f b) (hnow : 0 ≤ f 40 32 ∧ f 40 32 ≤ 100000) (n : Nat) (hn : f 40 30 = (n : Int)) (hn30 : n ≤ 30) (hrid : ∀ r, r < n → (0 ≤ f 57 r ∧ f 57 r ≤ 6) ∧ st_ok (f 63 r) ∧ -1 ≤ f 60 r ∧ f 60 r ≤ 10) {S : List Nat} (hS : mt_I f b S) (hS6 : S.length ≤ 6) (hom : f 40 46 = (S.length : Int)) {Pf : List Nat} (hP : ∀ j, j < Pf.length → f 84 j = ((Pf.getD j 0 : Nat) : Int)) (hP8 : Pf.length ≤ 8) (hP64 : ∀ j, j < Pf.length → Pf.getD j 0 < 64) (hPq : ∀ j, j < Pf.length → Pf.getD j 0 / 2 ≤ 30) (hPL : Pf.length + 3 = S.length) (s0 : om_S) (hs : bs_I f S.length s0)  : ab_M l E base yX10_orders cX10_orders 5 none 10 0 0 [.ref (ad 40), ii_v ((b : Nat) : Int), ii_v ((Pf.length : Nat) : Int)] ab_x4 ad (f, w) (ab_F ad w (fun ov g => ov = none ∧ bs_I g S.length (om_f v (mB f n b) (f 40 32) S n 3 Pf s0) ∧ (∀ j, j < Pf.length → g 84 j = f 84 j) ∧ (∀ o2, o2 ≠ 40 → (o2 < 75 ∨ 76 < o2) → (o2 < 83 ∨ 84 < o2) → g o2 = f o2) ∧ (∀ i, i ≠ 37 → i ≠ 45 → g 40 i = f 40 i))) := by
  obtain ⟨Post, hPost⟩ : ∃ P : ab_P, P = (ab_F ad w (fun ov g => ov = none ∧ bs_I g S.length (om_f v (mB f n b) (f 40 32) S n 3 Pf s0) ∧ (∀ j, j < Pf.length → g 84 j = f 84 j) ∧ (∀ o2, o2 ≠ 40 → (o2 < 75 ∨ 76 < o2) → (o2 < 83 ∨ 84 < o2) → g o2 = f o2) ∧ (∀ i, i ≠ 37 → i ≠ 45 → g 40 i = f 40 i))) := ⟨_, rfl⟩
  rw [← hPost]
  refine ab_of RX10 [(0, .ref (ad 40)), (1, ii_v ((b : Nat) : Int)), (2, ii_v ((Pf.length : Nat) : Int))] hl (by decide) rfl (Nat.le_of_ble_eq_true rfl) rfl ?_
  intro p e s m args below meth c C T0 hnm
  obtain ⟨hB1, hB2, hB3, hB4, hB5, hB6⟩ := id hB
  have hPl : Pf.length + 3 = S.length := by omega
  obtain ⟨ST, hST⟩ : ∃ ST : Nat → om_S → om_S, ST = (fun t s => if t ∈ S ∧ ¬ t ∈ Pf ∧ ¬ (¬ t % 2 = 0 ∧ t - 1 ∈ S ∧ ¬ t - 1 ∈ Pf) then om_f v (mB f n b) (f 40 32) S n 2 (Pf ++ [t]) s else s) := ⟨_, rfl⟩
  refine a_iload_n C dX10_orders_0 rfl ?_
  refine a_aload_n C dX10_orders_1 rfl ?_
  refine a_get (ci := 11) (i := 46) (v := ii_v (f 40 46)) C iw_X10 rfl (by decide) rfl fl_X10_241 rfl rfl dX10_orders_2 ?_
  refine a_top (w := ii_v ((S.length : Nat) : Int)) (congrArg (fun q => ii_v q) hom) ?_
  refine a_icmp_ne (tgt := 112) C dX10_orders_5 rfl (by unfold ii_B; omega) (by unfold ii_B; omega) (fun h5 => ?_) (fun h5 => ?_)
  · skip
    refine a_iconst C dX10_orders_112 ?_
    refine a_istore_n (L' := [(0, .ref (ad 40)), (1, ii_v ((b : Nat) : Int)), (2, ii_v ((Pf.length : Nat) : Int)), (3, ii_v 0)]) C dX10_orders_113 (by decide) rfl ?_
    have loop114 : ∀ (NN114 : Nat) (t : Nat) (g : Nat → Nat → Int) (so : om_S), 2 * n - t < NN114 → (t ≤ 2 * n) → (bs_I g S.length so) → (∀ j, j < Pf.length → g 84 j = f 84 j) → ((∀ o2, o2 ≠ 40 → (o2 < 75 ∨ 76 < o2) → (o2 < 83 ∨ 84 < o2) → g o2 = f o2)) → ((∀ i, i ≠ 37 → i ≠ 45 → g 40 i = f 40 i)) → (om_k ST t s0 = so) → ab_W p l e (ab_rm 10 0 0) s m args below meth c E base 5 (ab_Q below E base Post args s 0 0) ab_x4 ad (g, w) 0 0 114 [(0, .ref (ad 40)), (1, ii_v ((b : Nat) : Int)), (2, ii_v ((Pf.length : Nat) : Int)), (3, ii_v ((t : Nat) : Int))] [] := by
      intro NN114
      induction NN114 with
      | zero => intro t g so hNN; exact absurd hNN (Nat.not_lt_zero _)
      | succ NN114 ih114 =>
        intro t g so hNN ht2 hs h84g hfrg h40g hE
        have hmtg : mt_I g b S := mt_same hS (hfrg 51 (by decide) (by decide) (by decide)) (hfrg 52 (by decide) (by decide) (by decide))
        have homg : g 40 46 = (S.length : Int) := (h40g 46 (by decide) (by decide)).trans hom
        have hPg : ∀ j, j < Pf.length → g 84 j = ((Pf.getD j 0 : Nat) : Int) := fun j h => (h84g j h).trans (hP j h)
        refine a_iload_n C dX10_orders_114 rfl ?_
        refine a_iconst C dX10_orders_115 ?_
        refine a_aload_n C dX10_orders_116 rfl ?_
        refine a_get (ci := 11) (i := 30) (v := ii_v (g 40 30)) C iw_X10 rfl (by decide) rfl fl_X10_124 rfl rfl dX10_orders_117 ?_
        refine a_top (w := ii_v ((n : Nat) : Int)) (congrArg (fun q => ii_v q) ((h40g 30 (by decide) (by decide)).trans hn)) ?_
        refine a_imul C dX10_orders_120 ?_
        refine a_icmp_ge (tgt := 198) C dX10_orders_121 rfl (by unfold ii_B; omega) (by unfold ii_B; omega) (fun h121 => ?_) (fun h121 => ?_)
        · skip
          refine a_vret C ?_ (by decide) (by decide) dX10_orders_198
          rw [hPost]
          refine ab_F_of ⟨rfl, ?_, h84g, hfrg, h40g⟩
          rw [om_f, ← hST, show 2 * n = t by omega, hE]
          exact hs
        · skip
          refine a_aload_n C dX10_orders_124 rfl ?_
          refine a_iload_n C dX10_orders_125 rfl ?_
          refine a_iload_n C dX10_orders_126 rfl ?_
          refine a_callV (o := 40) (As := [ii_v ((b : Nat) : Int), ii_v ((t : Nat) : Int)]) C (m_isOnTour hl g w b hb hmtg hS6 homg t (by omega)) co_X10_isOnTour in_X10 ml_X10_247 im_X10_isOnTour se_X10_isOnTour rfl rfl ar_X10_isOnTour ⟨by decide, by decide, by decide, by decide⟩ rfl (Nat.le_of_ble_eq_true rfl) dX10_orders_127 (a_dR ?_) a_nR
          refine a_bif_eq (tgt := 192) C dX10_orders_130 rfl (fun h130 => ?_) (fun h130 => ?_)
          · skip
            refine a_iinc (L' := [(0, .ref (ad 40)), (1, ii_v ((b : Nat) : Int)), (2, ii_v ((Pf.length : Nat) : Int)), (3, ii_v (((t : Nat) : Int) + 1))]) C dX10_orders_192 rfl (by decide) rfl ?_
            refine a_goto (tgt := 114) C dX10_orders_195 rfl ?_
            exact ih114 (t + 1) g so (by omega) (by omega) hs h84g hfrg h40g (by rw [om_k, hE, hST]; exact if_neg (fun z => h130 z.1))
          · skip
            refine a_aload_n C dX10_orders_133 rfl ?_
            refine a_iload_n C dX10_orders_134 rfl ?_
            refine a_iload_n C dX10_orders_135 rfl ?_
            refine a_callV (o := 40) (As := [ii_v ((t : Nat) : Int), ii_v ((Pf.length : Nat) : Int)]) C (m_isTaken hl g w hPg hP8 hP64 t (by omega)) co_X10_isTaken in_X10 ml_X10_250 im_X10_isTaken se_X10_isTaken rfl rfl ar_X10_isTaken ⟨by decide, by decide, by decide, by decide⟩ rfl (Nat.le_of_ble_eq_true rfl) dX10_orders_136 (a_dR ?_) a_nR
            refine a_bif_eq (tgt := 145) C dX10_orders_139 rfl (fun h139 => ?_) (fun h139 => ?_)
            · skip
              refine a_iload_n C dX10_orders_145 rfl ?_
              refine a_callS (As := [ii_v ((t : Nat) : Int)]) C (m_isDrop hl g w t (by omega)) co_X10_isDrop in_X10 ml_X10_135 sc_X10_isDrop ar_X10_isDrop ⟨by decide, by decide, by decide, by decide⟩ rfl (Nat.le_of_ble_eq_true rfl) dX10_orders_146 (a_dR ?_) a_nR
              rw [md_iff (P := t % 2 = 0)]
              refine a_bif_eq (tgt := 177) C dX10_orders_149 rfl (fun h149 => ?_) (fun h149 => ?_)
              · skip
                refine a_aload_n C dX10_orders_177 rfl ?_
                refine a_get (ci := 11) (i := 44) (v := .ref (ad 84)) C iw_X10 rfl (by decide) rfl fl_X10_111 rfl rfl dX10_orders_178 ?_
                refine a_iload_n C dX10_orders_181 rfl ?_
                refine a_iload_n C dX10_orders_182 rfl ?_
                refine a_iast (o := 84) (N := 8) Pf.length C dX10_orders_183 rfl (by omega) (by omega) (by decide) ?_
                obtain ⟨g1, eg1⟩ : ∃ F : Nat → Nat → Int, F = ii_up g 84 Pf.length ((t : Nat) : Int) := ⟨_, rfl⟩
                rw [← eg1]
                have hfrg1 : (∀ o2, o2 ≠ 40 → (o2 < 75 ∨ 76 < o2) → (o2 < 83 ∨ 84 < o2) → g1 o2 = f o2) := fun o2 h1 h2 h3 => by rw [eg1, ii_up_row _ _ (by omega)]; exact hfrg o2 h1 h2 h3
                have h40g1 : (∀ i, i ≠ 37 → i ≠ 45 → g1 40 i = f 40 i) := fun i h1 h2 => by rw [eg1, ii_up_o _ _ _ (by decide)]; exact h40g i h1 h2
                have hvpg1 : pj_C g1 v := pj_same hv (fun o2 h => hfrg1 o2 (by omega) (by omega) (by omega))
                have r41g1 : g1 41 = f 41 := hfrg1 41 (by decide) (by decide) (by decide)
                have r43g1 : g1 43 = f 43 := hfrg1 43 (by decide) (by decide) (by decide)
                have r44g1 : g1 44 = f 44 := hfrg1 44 (by decide) (by decide) (by decide)
                have r45g1 : g1 45 = f 45 := hfrg1 45 (by decide) (by decide) (by decide)
                have r46g1 : g1 46 = f 46 := hfrg1 46 (by decide) (by decide) (by decide)
                have r47g1 : g1 47 = f 47 := hfrg1 47 (by decide) (by decide) (by decide)
                have rtg1 : g1 40 32 = f 40 32 := h40g1 32 (by decide) (by decide)
                have rag1 : ab_n g1 b n = ab_n f b n := ab_same (hfrg1 57 (by decide) (by decide) (by decide)) (hfrg1 63 (by decide) (by decide) (by decide)) (hfrg1 60 (by decide) (by decide) (by decide)) b n
                have hBpg1 : pk_B g1 b := by unfold pk_B; rw [r41g1, r43g1, r44g1, r45g1, r46g1, r47g1]; exact hB
                have hmtg1 : mt_I g1 b S := mt_same hS (hfrg1 51 (by decide) (by decide) (by decide)) (hfrg1 52 (by decide) (by decide) (by decide))
                have homg1 : g1 40 46 = (S.length : Int) := (h40g1 46 (by decide) (by decide)).trans hom
                have hsg1 : bs_I g1 S.length so := bs_same hs (by rw [eg1, ii_up_o _ _ _ (by decide)]) (by rw [eg1]; exact ii_up_row _ _ (by decide))
                have hPx : ∀ j, j < (Pf ++ [t]).length → g1 84 j = (((Pf ++ [t]).getD j 0 : Nat) : Int) := fun j h => by rw [eg1]; exact tk_app hPg j h
                have hP64x : ∀ j, j < (Pf ++ [t]).length → (Pf ++ [t]).getD j 0 < 64 := tk_all (p := fun q => q < 64) hP64 (by show t < 64; omega)
                have hPqx : ∀ j, j < (Pf ++ [t]).length → (Pf ++ [t]).getD j 0 / 2 ≤ 30 := tk_all (p := fun q => q / 2 ≤ 30) hPq (by show t / 2 ≤ 30; omega)
                have hmB : mB g1 n b = mB f n b := mB_same r41g1 r43g1 r44g1 r45g1 r46g1 r47g1 rag1
                refine a_aload_n C dX10_orders_184 rfl ?_
                refine a_iload_n C dX10_orders_185 rfl ?_
                refine a_iload_n C dX10_orders_186 rfl ?_
                refine a_iconst C dX10_orders_187 ?_
                refine a_iadd C dX10_orders_188 ?_
                rw [show ((Pf.length : Nat) : Int) + 1 = (((Pf ++ [t]).length : Nat) : Int) by simp]
                refine a_callV (o := 40) (As := [ii_v ((b : Nat) : Int), ii_v (((Pf ++ [t]).length : Nat) : Int)]) C (m_orders2 hl g1 w b hb hvpg1 hBpg1 (by rw [rtg1]; exact hnow) n (by rw [h40g1 30 (by decide) (by decide)]; exact hn) hn30 (fun r hr => by rw [hfrg1 57 (by decide) (by decide) (by decide), hfrg1 63 (by decide) (by decide) (by decide), hfrg1 60 (by decide) (by decide) (by decide)]; exact hrid r hr) hmtg1 hS6 homg1 hPx (by simp; omega) hP64x hPqx (by simp; omega) so hsg1) co_X10_orders in_X10 ml_X10_253 im_X10_orders se_X10_orders rfl rfl ar_X10_orders ⟨by decide, by decide, by decide, by decide⟩ rfl (Nat.le_of_ble_eq_true rfl) dX10_orders_189 (a_dF ?_) a_nF
                intro vg2 g2 hvg2
                obtain ⟨rfl, hsg2, h8xg2, hfg2, h4g2⟩ := hvg2
                rw [hmB, rtg1] at hsg2
                have hfrg2 : (∀ o2, o2 ≠ 40 → (o2 < 75 ∨ 76 < o2) → (o2 < 83 ∨ 84 < o2) → g2 o2 = f o2) := fun o2 h1 h2 h3 => (hfg2 o2 h1 h2 h3).trans (hfrg1 o2 h1 h2 h3)
                have h40g2 : (∀ i, i ≠ 37 → i ≠ 45 → g2 40 i = f 40 i) := fun i h1 h2 => (h4g2 i h1 h2).trans (h40g1 i h1 h2)
                have h84g2 : ∀ j, j < Pf.length → g2 84 j = f 84 j := fun j h => (h8xg2 j (by simp; omega)).trans ((by rw [eg1, ii_up_k _ _ (by omega)] : g1 84 j = g 84 j).trans (h84g j h))
                refine a_iinc (L' := [(0, .ref (ad 40)), (1, ii_v ((b : Nat) : Int)), (2, ii_v ((Pf.length : Nat) : Int)), (3, ii_v (((t : Nat) : Int) + 1))]) C dX10_orders_192 rfl (by decide) rfl ?_
                refine a_goto (tgt := 114) C dX10_orders_195 rfl ?_
                exact ih114 (t + 1) g2 (om_f v (mB f n b) (f 40 32) S n 2 (Pf ++ [t]) so) (by omega) (by omega) hsg2 h84g2 hfrg2 h40g2 (by rw [om_k, hE, hST]; exact if_pos ⟨h130, h139, (fun z => h149 z.1)⟩)
              · skip
                refine a_aload_n C dX10_orders_152 rfl ?_
                refine a_iload_n C dX10_orders_153 rfl ?_
                refine a_iload_n C dX10_orders_154 rfl ?_
                refine a_iconst C dX10_orders_155 ?_
                refine a_isub C dX10_orders_156 ?_
                rw [show ((t : Nat) : Int) - 1 = ((t - 1 : Nat) : Int) by omega]
                refine a_callV (o := 40) (As := [ii_v ((b : Nat) : Int), ii_v (((t - 1) : Nat) : Int)]) C (m_isOnTour hl g w b hb hmtg hS6 homg (t - 1) (by omega)) co_X10_isOnTour in_X10 ml_X10_247 im_X10_isOnTour se_X10_isOnTour rfl rfl ar_X10_isOnTour ⟨by decide, by decide, by decide, by decide⟩ rfl (Nat.le_of_ble_eq_true rfl) dX10_orders_157 (a_dR ?_) a_nR
                refine a_bif_eq (tgt := 177) C dX10_orders_160 rfl (fun h160 => ?_) (fun h160 => ?_)
                · skip
                  refine a_aload_n C dX10_orders_177 rfl ?_
                  refine a_get (ci := 11) (i := 44) (v := .ref (ad 84)) C iw_X10 rfl (by decide) rfl fl_X10_111 rfl rfl dX10_orders_178 ?_
                  refine a_iload_n C dX10_orders_181 rfl ?_
                  refine a_iload_n C dX10_orders_182 rfl ?_
                  refine a_iast (o := 84) (N := 8) Pf.length C dX10_orders_183 rfl (by omega) (by omega) (by decide) ?_
                  obtain ⟨g3, eg3⟩ : ∃ F : Nat → Nat → Int, F = ii_up g 84 Pf.length ((t : Nat) : Int) := ⟨_, rfl⟩
                  rw [← eg3]
                  have hfrg3 : (∀ o2, o2 ≠ 40 → (o2 < 75 ∨ 76 < o2) → (o2 < 83 ∨ 84 < o2) → g3 o2 = f o2) := fun o2 h1 h2 h3 => by rw [eg3, ii_up_row _ _ (by omega)]; exact hfrg o2 h1 h2 h3
                  have h40g3 : (∀ i, i ≠ 37 → i ≠ 45 → g3 40 i = f 40 i) := fun i h1 h2 => by rw [eg3, ii_up_o _ _ _ (by decide)]; exact h40g i h1 h2
                  have hvpg3 : pj_C g3 v := pj_same hv (fun o2 h => hfrg3 o2 (by omega) (by omega) (by omega))
                  have r41g3 : g3 41 = f 41 := hfrg3 41 (by decide) (by decide) (by decide)
                  have r43g3 : g3 43 = f 43 := hfrg3 43 (by decide) (by decide) (by decide)
                  have r44g3 : g3 44 = f 44 := hfrg3 44 (by decide) (by decide) (by decide)
                  have r45g3 : g3 45 = f 45 := hfrg3 45 (by decide) (by decide) (by decide)
                  have r46g3 : g3 46 = f 46 := hfrg3 46 (by decide) (by decide) (by decide)
                  have r47g3 : g3 47 = f 47 := hfrg3 47 (by decide) (by decide) (by decide)
                  have rtg3 : g3 40 32 = f 40 32 := h40g3 32 (by decide) (by decide)
                  have rag3 : ab_n g3 b n = ab_n f b n := ab_same (hfrg3 57 (by decide) (by decide) (by decide)) (hfrg3 63 (by decide) (by decide) (by decide)) (hfrg3 60 (by decide) (by decide) (by decide)) b n
                  have hBpg3 : pk_B g3 b := by unfold pk_B; rw [r41g3, r43g3, r44g3, r45g3, r46g3, r47g3]; exact hB
                  have hmtg3 : mt_I g3 b S := mt_same hS (hfrg3 51 (by decide) (by decide) (by decide)) (hfrg3 52 (by decide) (by decide) (by decide))
                  have homg3 : g3 40 46 = (S.length : Int) := (h40g3 46 (by decide) (by decide)).trans hom
                  have hsg3 : bs_I g3 S.length so := bs_same hs (by rw [eg3, ii_up_o _ _ _ (by decide)]) (by rw [eg3]; exact ii_up_row _ _ (by decide))
                  have hPx : ∀ j, j < (Pf ++ [t]).length → g3 84 j = (((Pf ++ [t]).getD j 0 : Nat) : Int) := fun j h => by rw [eg3]; exact tk_app hPg j h
                  have hP64x : ∀ j, j < (Pf ++ [t]).length → (Pf ++ [t]).getD j 0 < 64 := tk_all (p := fun q => q < 64) hP64 (by show t < 64; omega)
                  have hPqx : ∀ j, j < (Pf ++ [t]).length → (Pf ++ [t]).getD j 0 / 2 ≤ 30 := tk_all (p := fun q => q / 2 ≤ 30) hPq (by show t / 2 ≤ 30; omega)
                  have hmB : mB g3 n b = mB f n b := mB_same r41g3 r43g3 r44g3 r45g3 r46g3 r47g3 rag3
                  refine a_aload_n C dX10_orders_184 rfl ?_
                  refine a_iload_n C dX10_orders_185 rfl ?_
                  refine a_iload_n C dX10_orders_186 rfl ?_
                  refine a_iconst C dX10_orders_187 ?_
                  refine a_iadd C dX10_orders_188 ?_
                  rw [show ((Pf.length : Nat) : Int) + 1 = (((Pf ++ [t]).length : Nat) : Int) by simp]
                  refine a_callV (o := 40) (As := [ii_v ((b : Nat) : Int), ii_v (((Pf ++ [t]).length : Nat) : Int)]) C (m_orders2 hl g3 w b hb hvpg3 hBpg3 (by rw [rtg3]; exact hnow) n (by rw [h40g3 30 (by decide) (by decide)]; exact hn) hn30 (fun r hr => by rw [hfrg3 57 (by decide) (by decide) (by decide), hfrg3 63 (by decide) (by decide) (by decide), hfrg3 60 (by decide) (by decide) (by decide)]; exact hrid r hr) hmtg3 hS6 homg3 hPx (by simp; omega) hP64x hPqx (by simp; omega) so hsg3) co_X10_orders in_X10 ml_X10_253 im_X10_orders se_X10_orders rfl rfl ar_X10_orders ⟨by decide, by decide, by decide, by decide⟩ rfl (Nat.le_of_ble_eq_true rfl) dX10_orders_189 (a_dF ?_) a_nF
                  intro vg4 g4 hvg4
                  obtain ⟨rfl, hsg4, h8xg4, hfg4, h4g4⟩ := hvg4
                  rw [hmB, rtg3] at hsg4
                  have hfrg4 : (∀ o2, o2 ≠ 40 → (o2 < 75 ∨ 76 < o2) → (o2 < 83 ∨ 84 < o2) → g4 o2 = f o2) := fun o2 h1 h2 h3 => (hfg4 o2 h1 h2 h3).trans (hfrg3 o2 h1 h2 h3)
                  have h40g4 : (∀ i, i ≠ 37 → i ≠ 45 → g4 40 i = f 40 i) := fun i h1 h2 => (h4g4 i h1 h2).trans (h40g3 i h1 h2)
                  have h84g4 : ∀ j, j < Pf.length → g4 84 j = f 84 j := fun j h => (h8xg4 j (by simp; omega)).trans ((by rw [eg3, ii_up_k _ _ (by omega)] : g3 84 j = g 84 j).trans (h84g j h))
                  refine a_iinc (L' := [(0, .ref (ad 40)), (1, ii_v ((b : Nat) : Int)), (2, ii_v ((Pf.length : Nat) : Int)), (3, ii_v (((t : Nat) : Int) + 1))]) C dX10_orders_192 rfl (by decide) rfl ?_
                  refine a_goto (tgt := 114) C dX10_orders_195 rfl ?_
                  exact ih114 (t + 1) g4 (om_f v (mB f n b) (f 40 32) S n 2 (Pf ++ [t]) so) (by omega) (by omega) hsg4 h84g4 hfrg4 h40g4 (by rw [om_k, hE, hST]; exact if_pos ⟨h130, h139, (fun z => h160 z.2.1)⟩)
                · skip
                  refine a_aload_n C dX10_orders_163 rfl ?_
                  refine a_iload_n C dX10_orders_164 rfl ?_
                  refine a_iconst C dX10_orders_165 ?_
                  refine a_isub C dX10_orders_166 ?_
                  rw [show ((t : Nat) : Int) - 1 = ((t - 1 : Nat) : Int) by omega]
                  refine a_iload_n C dX10_orders_167 rfl ?_
                  refine a_callV (o := 40) (As := [ii_v (((t - 1) : Nat) : Int), ii_v ((Pf.length : Nat) : Int)]) C (m_isTaken hl g w hPg hP8 hP64 (t - 1) (by omega)) co_X10_isTaken in_X10 ml_X10_250 im_X10_isTaken se_X10_isTaken rfl rfl ar_X10_isTaken ⟨by decide, by decide, by decide, by decide⟩ rfl (Nat.le_of_ble_eq_true rfl) dX10_orders_168 (a_dR ?_) a_nR
                  refine a_bif_ne (tgt := 177) C dX10_orders_171 rfl (fun h171 => ?_) (fun h171 => ?_)
                  · skip
                    refine a_aload_n C dX10_orders_177 rfl ?_
                    refine a_get (ci := 11) (i := 44) (v := .ref (ad 84)) C iw_X10 rfl (by decide) rfl fl_X10_111 rfl rfl dX10_orders_178 ?_
                    refine a_iload_n C dX10_orders_181 rfl ?_
                    refine a_iload_n C dX10_orders_182 rfl ?_
                    refine a_iast (o := 84) (N := 8) Pf.length C dX10_orders_183 rfl (by omega) (by omega) (by decide) ?_
                    obtain ⟨g5, eg5⟩ : ∃ F : Nat → Nat → Int, F = ii_up g 84 Pf.length ((t : Nat) : Int) := ⟨_, rfl⟩
                    rw [← eg5]
                    have hfrg5 : (∀ o2, o2 ≠ 40 → (o2 < 75 ∨ 76 < o2) → (o2 < 83 ∨ 84 < o2) → g5 o2 = f o2) := fun o2 h1 h2 h3 => by rw [eg5, ii_up_row _ _ (by omega)]; exact hfrg o2 h1 h2 h3
                    have h40g5 : (∀ i, i ≠ 37 → i ≠ 45 → g5 40 i = f 40 i) := fun i h1 h2 => by rw [eg5, ii_up_o _ _ _ (by decide)]; exact h40g i h1 h2
                    have hvpg5 : pj_C g5 v := pj_same hv (fun o2 h => hfrg5 o2 (by omega) (by omega) (by omega))
                    have r41g5 : g5 41 = f 41 := hfrg5 41 (by decide) (by decide) (by decide)
                    have r43g5 : g5 43 = f 43 := hfrg5 43 (by decide) (by decide) (by decide)
                    have r44g5 : g5 44 = f 44 := hfrg5 44 (by decide) (by decide) (by decide)
                    have r45g5 : g5 45 = f 45 := hfrg5 45 (by decide) (by decide) (by decide)
                    have r46g5 : g5 46 = f 46 := hfrg5 46 (by decide) (by decide) (by decide)
                    have r47g5 : g5 47 = f 47 := hfrg5 47 (by decide) (by decide) (by decide)
                    have rtg5 : g5 40 32 = f 40 32 := h40g5 32 (by decide) (by decide)
                    have rag5 : ab_n g5 b n = ab_n f b n := ab_same (hfrg5 57 (by decide) (by decide) (by decide)) (hfrg5 63 (by decide) (by decide) (by decide)) (hfrg5 60 (by decide) (by decide) (by decide)) b n
                    have hBpg5 : pk_B g5 b := by unfold pk_B; rw [r41g5, r43g5, r44g5, r45g5, r46g5, r47g5]; exact hB
                    have hmtg5 : mt_I g5 b S := mt_same hS (hfrg5 51 (by decide) (by decide) (by decide)) (hfrg5 52 (by decide) (by decide) (by decide))
                    have homg5 : g5 40 46 = (S.length : Int) := (h40g5 46 (by decide) (by decide)).trans hom
                    have hsg5 : bs_I g5 S.length so := bs_same hs (by rw [eg5, ii_up_o _ _ _ (by decide)]) (by rw [eg5]; exact ii_up_row _ _ (by decide))
                    have hPx : ∀ j, j < (Pf ++ [t]).length → g5 84 j = (((Pf ++ [t]).getD j 0 : Nat) : Int) := fun j h => by rw [eg5]; exact tk_app hPg j h
                    have hP64x : ∀ j, j < (Pf ++ [t]).length → (Pf ++ [t]).getD j 0 < 64 := tk_all (p := fun q => q < 64) hP64 (by show t < 64; omega)
                    have hPqx : ∀ j, j < (Pf ++ [t]).length → (Pf ++ [t]).getD j 0 / 2 ≤ 30 := tk_all (p := fun q => q / 2 ≤ 30) hPq (by show t / 2 ≤ 30; omega)
                    have hmB : mB g5 n b = mB f n b := mB_same r41g5 r43g5 r44g5 r45g5 r46g5 r47g5 rag5
                    refine a_aload_n C dX10_orders_184 rfl ?_
                    refine a_iload_n C dX10_orders_185 rfl ?_
                    refine a_iload_n C dX10_orders_186 rfl ?_
                    refine a_iconst C dX10_orders_187 ?_
                    refine a_iadd C dX10_orders_188 ?_
                    rw [show ((Pf.length : Nat) : Int) + 1 = (((Pf ++ [t]).length : Nat) : Int) by simp]
                    refine a_callV (o := 40) (As := [ii_v ((b : Nat) : Int), ii_v (((Pf ++ [t]).length : Nat) : Int)]) C (m_orders2 hl g5 w b hb hvpg5 hBpg5 (by rw [rtg5]; exact hnow) n (by rw [h40g5 30 (by decide) (by decide)]; exact hn) hn30 (fun r hr => by rw [hfrg5 57 (by decide) (by decide) (by decide), hfrg5 63 (by decide) (by decide) (by decide), hfrg5 60 (by decide) (by decide) (by decide)]; exact hrid r hr) hmtg5 hS6 homg5 hPx (by simp; omega) hP64x hPqx (by simp; omega) so hsg5) co_X10_orders in_X10 ml_X10_253 im_X10_orders se_X10_orders rfl rfl ar_X10_orders ⟨by decide, by decide, by decide, by decide⟩ rfl (Nat.le_of_ble_eq_true rfl) dX10_orders_189 (a_dF ?_) a_nF
                    intro vg6 g6 hvg6
                    obtain ⟨rfl, hsg6, h8xg6, hfg6, h4g6⟩ := hvg6
                    rw [hmB, rtg5] at hsg6
                    have hfrg6 : (∀ o2, o2 ≠ 40 → (o2 < 75 ∨ 76 < o2) → (o2 < 83 ∨ 84 < o2) → g6 o2 = f o2) := fun o2 h1 h2 h3 => (hfg6 o2 h1 h2 h3).trans (hfrg5 o2 h1 h2 h3)
                    have h40g6 : (∀ i, i ≠ 37 → i ≠ 45 → g6 40 i = f 40 i) := fun i h1 h2 => (h4g6 i h1 h2).trans (h40g5 i h1 h2)
                    have h84g6 : ∀ j, j < Pf.length → g6 84 j = f 84 j := fun j h => (h8xg6 j (by simp; omega)).trans ((by rw [eg5, ii_up_k _ _ (by omega)] : g5 84 j = g 84 j).trans (h84g j h))
                    refine a_iinc (L' := [(0, .ref (ad 40)), (1, ii_v ((b : Nat) : Int)), (2, ii_v ((Pf.length : Nat) : Int)), (3, ii_v (((t : Nat) : Int) + 1))]) C dX10_orders_192 rfl (by decide) rfl ?_
                    refine a_goto (tgt := 114) C dX10_orders_195 rfl ?_
                    exact ih114 (t + 1) g6 (om_f v (mB f n b) (f 40 32) S n 2 (Pf ++ [t]) so) (by omega) (by omega) hsg6 h84g6 hfrg6 h40g6 (by rw [om_k, hE, hST]; exact if_pos ⟨h130, h139, (fun z => z.2.2 h171)⟩)
                  · skip
                    refine a_goto (tgt := 192) C dX10_orders_174 rfl ?_
                    refine a_iinc (L' := [(0, .ref (ad 40)), (1, ii_v ((b : Nat) : Int)), (2, ii_v ((Pf.length : Nat) : Int)), (3, ii_v (((t : Nat) : Int) + 1))]) C dX10_orders_192 rfl (by decide) rfl ?_
                    refine a_goto (tgt := 114) C dX10_orders_195 rfl ?_
                    exact ih114 (t + 1) g so (by omega) (by omega) hs h84g hfrg h40g (by rw [om_k, hE, hST]; exact if_neg (fun z => z.2.2 ⟨h149, h160, h171⟩))
            · skip
              refine a_goto (tgt := 192) C dX10_orders_142 rfl ?_
              refine a_iinc (L' := [(0, .ref (ad 40)), (1, ii_v ((b : Nat) : Int)), (2, ii_v ((Pf.length : Nat) : Int)), (3, ii_v (((t : Nat) : Int) + 1))]) C dX10_orders_192 rfl (by decide) rfl ?_
              refine a_goto (tgt := 114) C dX10_orders_195 rfl ?_
              exact ih114 (t + 1) g so (by omega) (by omega) hs h84g hfrg h40g (by rw [om_k, hE, hST]; exact if_neg (fun z => z.2.1 h139))
    exact loop114 (_ + 1) 0 f s0 (Nat.lt_succ_self _) (Nat.zero_le _) hs (fun _ _ => rfl) (fun _ _ _ _ => rfl) (fun _ _ _ => rfl) rfl
  · skip
    omega
set_option maxRecDepth 20000 in
set_option maxHeartbeats 2000000 in
theorem m_orders4 {l : Launch} {E : ab_E} {base : Nat} (hl : l.stackTraces = false) {ad : Nat → Nat} (f : Nat → Nat → Int) (w : Nat × Nat × Int64 × UInt64) (b : Nat) (hb : b < 4) {v : Nat → Nat → Int} (hv : pj_C f v) (hB : pk_B f b) (hnow : 0 ≤ f 40 32 ∧ f 40 32 ≤ 100000) (n : Nat) (hn : f 40 30 = (n : Int)) (hn30 : n ≤ 30) (hrid : ∀ r, r < n → (0 ≤ f 57 r ∧ f 57 r ≤ 6) ∧ st_ok (f 63 r) ∧ -1 ≤ f 60 r ∧ f 60 r ≤ 10) {S : List Nat} (hS : mt_I f b S) (hS6 : S.length ≤ 6) (hom : f 40 46 = (S.length : Int)) {Pf : List Nat} (hP : ∀ j, j < Pf.length → f 84 j = ((Pf.getD j 0 : Nat) : Int)) (hP8 : Pf.length ≤ 8) (hP64 : ∀ j, j < Pf.length → Pf.getD j 0 < 64) (hPq : ∀ j, j < Pf.length → Pf.getD j 0 / 2 ≤ 30) (hPL : Pf.length + 4 = S.length) (s0 : om_S) (hs : bs_I f S.length s0)  : ab_M l E base yX10_orders cX10_orders 5 none 11 0 0 [.ref (ad 40), ii_v ((b : Nat) : Int), ii_v ((Pf.length : Nat) : Int)] ab_x4 ad (f, w) (ab_F ad w (fun ov g => ov = none ∧ bs_I g S.length (om_f v (mB f n b) (f 40 32) S n 4 Pf s0) ∧ (∀ j, j < Pf.length → g 84 j = f 84 j) ∧ (∀ o2, o2 ≠ 40 → (o2 < 75 ∨ 76 < o2) → (o2 < 83 ∨ 84 < o2) → g o2 = f o2) ∧ (∀ i, i ≠ 37 → i ≠ 45 → g 40 i = f 40 i))) := by
  obtain ⟨Post, hPost⟩ : ∃ P : ab_P, P = (ab_F ad w (fun ov g => ov = none ∧ bs_I g S.length (om_f v (mB f n b) (f 40 32) S n 4 Pf s0) ∧ (∀ j, j < Pf.length → g 84 j = f 84 j) ∧ (∀ o2, o2 ≠ 40 → (o2 < 75 ∨ 76 < o2) → (o2 < 83 ∨ 84 < o2) → g o2 = f o2) ∧ (∀ i, i ≠ 37 → i ≠ 45 → g 40 i = f 40 i))) := ⟨_, rfl⟩
  rw [← hPost]
  refine ab_of RX10 [(0, .ref (ad 40)), (1, ii_v ((b : Nat) : Int)), (2, ii_v ((Pf.length : Nat) : Int))] hl (by decide) rfl (Nat.le_of_ble_eq_true rfl) rfl ?_
  intro p e s m args below meth c C T0 hnm
  obtain ⟨hB1, hB2, hB3, hB4, hB5, hB6⟩ := id hB
  have hPl : Pf.length + 4 = S.length := by omega
  obtain ⟨ST, hST⟩ : ∃ ST : Nat → om_S → om_S, ST = (fun t s => if t ∈ S ∧ ¬ t ∈ Pf ∧ ¬ (¬ t % 2 = 0 ∧ t - 1 ∈ S ∧ ¬ t - 1 ∈ Pf) then om_f v (mB f n b) (f 40 32) S n 3 (Pf ++ [t]) s else s) := ⟨_, rfl⟩
  refine a_iload_n C dX10_orders_0 rfl ?_
  refine a_aload_n C dX10_orders_1 rfl ?_
  refine a_get (ci := 11) (i := 46) (v := ii_v (f 40 46)) C iw_X10 rfl (by decide) rfl fl_X10_241 rfl rfl dX10_orders_2 ?_
  refine a_top (w := ii_v ((S.length : Nat) : Int)) (congrArg (fun q => ii_v q) hom) ?_
  refine a_icmp_ne (tgt := 112) C dX10_orders_5 rfl (by unfold ii_B; omega) (by unfold ii_B; omega) (fun h5 => ?_) (fun h5 => ?_)
  · skip
    refine a_iconst C dX10_orders_112 ?_
    refine a_istore_n (L' := [(0, .ref (ad 40)), (1, ii_v ((b : Nat) : Int)), (2, ii_v ((Pf.length : Nat) : Int)), (3, ii_v 0)]) C dX10_orders_113 (by decide) rfl ?_
    have loop114 : ∀ (NN114 : Nat) (t : Nat) (g : Nat → Nat → Int) (so : om_S), 2 * n - t < NN114 → (t ≤ 2 * n) → (bs_I g S.length so) → (∀ j, j < Pf.length → g 84 j = f 84 j) → ((∀ o2, o2 ≠ 40 → (o2 < 75 ∨ 76 < o2) → (o2 < 83 ∨ 84 < o2) → g o2 = f o2)) → ((∀ i, i ≠ 37 → i ≠ 45 → g 40 i = f 40 i)) → (om_k ST t s0 = so) → ab_W p l e (ab_rm 11 0 0) s m args below meth c E base 5 (ab_Q below E base Post args s 0 0) ab_x4 ad (g, w) 0 0 114 [(0, .ref (ad 40)), (1, ii_v ((b : Nat) : Int)), (2, ii_v ((Pf.length : Nat) : Int)), (3, ii_v ((t : Nat) : Int))] [] := by
      intro NN114
      induction NN114 with
      | zero => intro t g so hNN; exact absurd hNN (Nat.not_lt_zero _)
      | succ NN114 ih114 =>
        intro t g so hNN ht2 hs h84g hfrg h40g hE
        have hmtg : mt_I g b S := mt_same hS (hfrg 51 (by decide) (by decide) (by decide)) (hfrg 52 (by decide) (by decide) (by decide))
        have homg : g 40 46 = (S.length : Int) := (h40g 46 (by decide) (by decide)).trans hom
        have hPg : ∀ j, j < Pf.length → g 84 j = ((Pf.getD j 0 : Nat) : Int) := fun j h => (h84g j h).trans (hP j h)
        refine a_iload_n C dX10_orders_114 rfl ?_
        refine a_iconst C dX10_orders_115 ?_
        refine a_aload_n C dX10_orders_116 rfl ?_
        refine a_get (ci := 11) (i := 30) (v := ii_v (g 40 30)) C iw_X10 rfl (by decide) rfl fl_X10_124 rfl rfl dX10_orders_117 ?_
        refine a_top (w := ii_v ((n : Nat) : Int)) (congrArg (fun q => ii_v q) ((h40g 30 (by decide) (by decide)).trans hn)) ?_
        refine a_imul C dX10_orders_120 ?_
        refine a_icmp_ge (tgt := 198) C dX10_orders_121 rfl (by unfold ii_B; omega) (by unfold ii_B; omega) (fun h121 => ?_) (fun h121 => ?_)
        · skip
          refine a_vret C ?_ (by decide) (by decide) dX10_orders_198
          rw [hPost]
          refine ab_F_of ⟨rfl, ?_, h84g, hfrg, h40g⟩
          rw [om_f, ← hST, show 2 * n = t by omega, hE]
          exact hs
        · skip
          refine a_aload_n C dX10_orders_124 rfl ?_
          refine a_iload_n C dX10_orders_125 rfl ?_
          refine a_iload_n C dX10_orders_126 rfl ?_
          refine a_callV (o := 40) (As := [ii_v ((b : Nat) : Int), ii_v ((t : Nat) : Int)]) C (m_isOnTour hl g w b hb hmtg hS6 homg t (by omega)) co_X10_isOnTour in_X10 ml_X10_247 im_X10_isOnTour se_X10_isOnTour rfl rfl ar_X10_isOnTour ⟨by decide, by decide, by decide, by decide⟩ rfl (Nat.le_of_ble_eq_true rfl) dX10_orders_127 (a_dR ?_) a_nR
          refine a_bif_eq (tgt := 192) C dX10_orders_130 rfl (fun h130 => ?_) (fun h130 => ?_)
          · skip
            refine a_iinc (L' := [(0, .ref (ad 40)), (1, ii_v ((b : Nat) : Int)), (2, ii_v ((Pf.length : Nat) : Int)), (3, ii_v (((t : Nat) : Int) + 1))]) C dX10_orders_192 rfl (by decide) rfl ?_
            refine a_goto (tgt := 114) C dX10_orders_195 rfl ?_
            exact ih114 (t + 1) g so (by omega) (by omega) hs h84g hfrg h40g (by rw [om_k, hE, hST]; exact if_neg (fun z => h130 z.1))
          · skip
            refine a_aload_n C dX10_orders_133 rfl ?_
            refine a_iload_n C dX10_orders_134 rfl ?_
            refine a_iload_n C dX10_orders_135 rfl ?_
            refine a_callV (o := 40) (As := [ii_v ((t : Nat) : Int), ii_v ((Pf.length : Nat) : Int)]) C (m_isTaken hl g w hPg hP8 hP64 t (by omega)) co_X10_isTaken in_X10 ml_X10_250 im_X10_isTaken se_X10_isTaken rfl rfl ar_X10_isTaken ⟨by decide, by decide, by decide, by decide⟩ rfl (Nat.le_of_ble_eq_true rfl) dX10_orders_136 (a_dR ?_) a_nR
            refine a_bif_eq (tgt := 145) C dX10_orders_139 rfl (fun h139 => ?_) (fun h139 => ?_)
            · skip
              refine a_iload_n C dX10_orders_145 rfl ?_
              refine a_callS (As := [ii_v ((t : Nat) : Int)]) C (m_isDrop hl g w t (by omega)) co_X10_isDrop in_X10 ml_X10_135 sc_X10_isDrop ar_X10_isDrop ⟨by decide, by decide, by decide, by decide⟩ rfl (Nat.le_of_ble_eq_true rfl) dX10_orders_146 (a_dR ?_) a_nR
              rw [md_iff (P := t % 2 = 0)]
              refine a_bif_eq (tgt := 177) C dX10_orders_149 rfl (fun h149 => ?_) (fun h149 => ?_)
              · skip
                refine a_aload_n C dX10_orders_177 rfl ?_
                refine a_get (ci := 11) (i := 44) (v := .ref (ad 84)) C iw_X10 rfl (by decide) rfl fl_X10_111 rfl rfl dX10_orders_178 ?_
                refine a_iload_n C dX10_orders_181 rfl ?_
                refine a_iload_n C dX10_orders_182 rfl ?_
                refine a_iast (o := 84) (N := 8) Pf.length C dX10_orders_183 rfl (by omega) (by omega) (by decide) ?_
                obtain ⟨g1, eg1⟩ : ∃ F : Nat → Nat → Int, F = ii_up g 84 Pf.length ((t : Nat) : Int) := ⟨_, rfl⟩
                rw [← eg1]
                have hfrg1 : (∀ o2, o2 ≠ 40 → (o2 < 75 ∨ 76 < o2) → (o2 < 83 ∨ 84 < o2) → g1 o2 = f o2) := fun o2 h1 h2 h3 => by rw [eg1, ii_up_row _ _ (by omega)]; exact hfrg o2 h1 h2 h3
                have h40g1 : (∀ i, i ≠ 37 → i ≠ 45 → g1 40 i = f 40 i) := fun i h1 h2 => by rw [eg1, ii_up_o _ _ _ (by decide)]; exact h40g i h1 h2
                have hvpg1 : pj_C g1 v := pj_same hv (fun o2 h => hfrg1 o2 (by omega) (by omega) (by omega))
                have r41g1 : g1 41 = f 41 := hfrg1 41 (by decide) (by decide) (by decide)
                have r43g1 : g1 43 = f 43 := hfrg1 43 (by decide) (by decide) (by decide)
                have r44g1 : g1 44 = f 44 := hfrg1 44 (by decide) (by decide) (by decide)
                have r45g1 : g1 45 = f 45 := hfrg1 45 (by decide) (by decide) (by decide)
                have r46g1 : g1 46 = f 46 := hfrg1 46 (by decide) (by decide) (by decide)
                have r47g1 : g1 47 = f 47 := hfrg1 47 (by decide) (by decide) (by decide)
                have rtg1 : g1 40 32 = f 40 32 := h40g1 32 (by decide) (by decide)
                have rag1 : ab_n g1 b n = ab_n f b n := ab_same (hfrg1 57 (by decide) (by decide) (by decide)) (hfrg1 63 (by decide) (by decide) (by decide)) (hfrg1 60 (by decide) (by decide) (by decide)) b n
                have hBpg1 : pk_B g1 b := by unfold pk_B; rw [r41g1, r43g1, r44g1, r45g1, r46g1, r47g1]; exact hB
                have hmtg1 : mt_I g1 b S := mt_same hS (hfrg1 51 (by decide) (by decide) (by decide)) (hfrg1 52 (by decide) (by decide) (by decide))
                have homg1 : g1 40 46 = (S.length : Int) := (h40g1 46 (by decide) (by decide)).trans hom
                have hsg1 : bs_I g1 S.length so := bs_same hs (by rw [eg1, ii_up_o _ _ _ (by decide)]) (by rw [eg1]; exact ii_up_row _ _ (by decide))
                have hPx : ∀ j, j < (Pf ++ [t]).length → g1 84 j = (((Pf ++ [t]).getD j 0 : Nat) : Int) := fun j h => by rw [eg1]; exact tk_app hPg j h
                have hP64x : ∀ j, j < (Pf ++ [t]).length → (Pf ++ [t]).getD j 0 < 64 := tk_all (p := fun q => q < 64) hP64 (by show t < 64; omega)
                have hPqx : ∀ j, j < (Pf ++ [t]).length → (Pf ++ [t]).getD j 0 / 2 ≤ 30 := tk_all (p := fun q => q / 2 ≤ 30) hPq (by show t / 2 ≤ 30; omega)
                have hmB : mB g1 n b = mB f n b := mB_same r41g1 r43g1 r44g1 r45g1 r46g1 r47g1 rag1
                refine a_aload_n C dX10_orders_184 rfl ?_
                refine a_iload_n C dX10_orders_185 rfl ?_
                refine a_iload_n C dX10_orders_186 rfl ?_
                refine a_iconst C dX10_orders_187 ?_
                refine a_iadd C dX10_orders_188 ?_
                rw [show ((Pf.length : Nat) : Int) + 1 = (((Pf ++ [t]).length : Nat) : Int) by simp]
                refine a_callV (o := 40) (As := [ii_v ((b : Nat) : Int), ii_v (((Pf ++ [t]).length : Nat) : Int)]) C (m_orders3 hl g1 w b hb hvpg1 hBpg1 (by rw [rtg1]; exact hnow) n (by rw [h40g1 30 (by decide) (by decide)]; exact hn) hn30 (fun r hr => by rw [hfrg1 57 (by decide) (by decide) (by decide), hfrg1 63 (by decide) (by decide) (by decide), hfrg1 60 (by decide) (by decide) (by decide)]; exact hrid r hr) hmtg1 hS6 homg1 hPx (by simp; omega) hP64x hPqx (by simp; omega) so hsg1) co_X10_orders in_X10 ml_X10_253 im_X10_orders se_X10_orders rfl rfl ar_X10_orders ⟨by decide, by decide, by decide, by decide⟩ rfl (Nat.le_of_ble_eq_true rfl) dX10_orders_189 (a_dF ?_) a_nF
                intro vg2 g2 hvg2
                obtain ⟨rfl, hsg2, h8xg2, hfg2, h4g2⟩ := hvg2
                rw [hmB, rtg1] at hsg2
                have hfrg2 : (∀ o2, o2 ≠ 40 → (o2 < 75 ∨ 76 < o2) → (o2 < 83 ∨ 84 < o2) → g2 o2 = f o2) := fun o2 h1 h2 h3 => (hfg2 o2 h1 h2 h3).trans (hfrg1 o2 h1 h2 h3)
                have h40g2 : (∀ i, i ≠ 37 → i ≠ 45 → g2 40 i = f 40 i) := fun i h1 h2 => (h4g2 i h1 h2).trans (h40g1 i h1 h2)
                have h84g2 : ∀ j, j < Pf.length → g2 84 j = f 84 j := fun j h => (h8xg2 j (by simp; omega)).trans ((by rw [eg1, ii_up_k _ _ (by omega)] : g1 84 j = g 84 j).trans (h84g j h))
                refine a_iinc (L' := [(0, .ref (ad 40)), (1, ii_v ((b : Nat) : Int)), (2, ii_v ((Pf.length : Nat) : Int)), (3, ii_v (((t : Nat) : Int) + 1))]) C dX10_orders_192 rfl (by decide) rfl ?_
                refine a_goto (tgt := 114) C dX10_orders_195 rfl ?_
                exact ih114 (t + 1) g2 (om_f v (mB f n b) (f 40 32) S n 3 (Pf ++ [t]) so) (by omega) (by omega) hsg2 h84g2 hfrg2 h40g2 (by rw [om_k, hE, hST]; exact if_pos ⟨h130, h139, (fun z => h149 z.1)⟩)
              · skip
                refine a_aload_n C dX10_orders_152 rfl ?_
                refine a_iload_n C dX10_orders_153 rfl ?_
                refine a_iload_n C dX10_orders_154 rfl ?_
                refine a_iconst C dX10_orders_155 ?_
                refine a_isub C dX10_orders_156 ?_
                rw [show ((t : Nat) : Int) - 1 = ((t - 1 : Nat) : Int) by omega]
                refine a_callV (o := 40) (As := [ii_v ((b : Nat) : Int), ii_v (((t - 1) : Nat) : Int)]) C (m_isOnTour hl g w b hb hmtg hS6 homg (t - 1) (by omega)) co_X10_isOnTour in_X10 ml_X10_247 im_X10_isOnTour se_X10_isOnTour rfl rfl ar_X10_isOnTour ⟨by decide, by decide, by decide, by decide⟩ rfl (Nat.le_of_ble_eq_true rfl) dX10_orders_157 (a_dR ?_) a_nR
                refine a_bif_eq (tgt := 177) C dX10_orders_160 rfl (fun h160 => ?_) (fun h160 => ?_)
                · skip
                  refine a_aload_n C dX10_orders_177 rfl ?_
                  refine a_get (ci := 11) (i := 44) (v := .ref (ad 84)) C iw_X10 rfl (by decide) rfl fl_X10_111 rfl rfl dX10_orders_178 ?_
                  refine a_iload_n C dX10_orders_181 rfl ?_
                  refine a_iload_n C dX10_orders_182 rfl ?_
                  refine a_iast (o := 84) (N := 8) Pf.length C dX10_orders_183 rfl (by omega) (by omega) (by decide) ?_
                  obtain ⟨g3, eg3⟩ : ∃ F : Nat → Nat → Int, F = ii_up g 84 Pf.length ((t : Nat) : Int) := ⟨_, rfl⟩
                  rw [← eg3]
                  have hfrg3 : (∀ o2, o2 ≠ 40 → (o2 < 75 ∨ 76 < o2) → (o2 < 83 ∨ 84 < o2) → g3 o2 = f o2) := fun o2 h1 h2 h3 => by rw [eg3, ii_up_row _ _ (by omega)]; exact hfrg o2 h1 h2 h3
                  have h40g3 : (∀ i, i ≠ 37 → i ≠ 45 → g3 40 i = f 40 i) := fun i h1 h2 => by rw [eg3, ii_up_o _ _ _ (by decide)]; exact h40g i h1 h2
                  have hvpg3 : pj_C g3 v := pj_same hv (fun o2 h => hfrg3 o2 (by omega) (by omega) (by omega))
                  have r41g3 : g3 41 = f 41 := hfrg3 41 (by decide) (by decide) (by decide)
                  have r43g3 : g3 43 = f 43 := hfrg3 43 (by decide) (by decide) (by decide)
                  have r44g3 : g3 44 = f 44 := hfrg3 44 (by decide) (by decide) (by decide)
                  have r45g3 : g3 45 = f 45 := hfrg3 45 (by decide) (by decide) (by decide)
                  have r46g3 : g3 46 = f 46 := hfrg3 46 (by decide) (by decide) (by decide)
                  have r47g3 : g3 47 = f 47 := hfrg3 47 (by decide) (by decide) (by decide)
                  have rtg3 : g3 40 32 = f 40 32 := h40g3 32 (by decide) (by decide)
                  have rag3 : ab_n g3 b n = ab_n f b n := ab_same (hfrg3 57 (by decide) (by decide) (by decide)) (hfrg3 63 (by decide) (by decide) (by decide)) (hfrg3 60 (by decide) (by decide) (by decide)) b n
                  have hBpg3 : pk_B g3 b := by unfold pk_B; rw [r41g3, r43g3, r44g3, r45g3, r46g3, r47g3]; exact hB
                  have hmtg3 : mt_I g3 b S := mt_same hS (hfrg3 51 (by decide) (by decide) (by decide)) (hfrg3 52 (by decide) (by decide) (by decide))
                  have homg3 : g3 40 46 = (S.length : Int) := (h40g3 46 (by decide) (by decide)).trans hom
                  have hsg3 : bs_I g3 S.length so := bs_same hs (by rw [eg3, ii_up_o _ _ _ (by decide)]) (by rw [eg3]; exact ii_up_row _ _ (by decide))
                  have hPx : ∀ j, j < (Pf ++ [t]).length → g3 84 j = (((Pf ++ [t]).getD j 0 : Nat) : Int) := fun j h => by rw [eg3]; exact tk_app hPg j h
                  have hP64x : ∀ j, j < (Pf ++ [t]).length → (Pf ++ [t]).getD j 0 < 64 := tk_all (p := fun q => q < 64) hP64 (by show t < 64; omega)
                  have hPqx : ∀ j, j < (Pf ++ [t]).length → (Pf ++ [t]).getD j 0 / 2 ≤ 30 := tk_all (p := fun q => q / 2 ≤ 30) hPq (by show t / 2 ≤ 30; omega)
                  have hmB : mB g3 n b = mB f n b := mB_same r41g3 r43g3 r44g3 r45g3 r46g3 r47g3 rag3
                  refine a_aload_n C dX10_orders_184 rfl ?_
                  refine a_iload_n C dX10_orders_185 rfl ?_
                  refine a_iload_n C dX10_orders_186 rfl ?_
                  refine a_iconst C dX10_orders_187 ?_
                  refine a_iadd C dX10_orders_188 ?_
                  rw [show ((Pf.length : Nat) : Int) + 1 = (((Pf ++ [t]).length : Nat) : Int) by simp]
                  refine a_callV (o := 40) (As := [ii_v ((b : Nat) : Int), ii_v (((Pf ++ [t]).length : Nat) : Int)]) C (m_orders3 hl g3 w b hb hvpg3 hBpg3 (by rw [rtg3]; exact hnow) n (by rw [h40g3 30 (by decide) (by decide)]; exact hn) hn30 (fun r hr => by rw [hfrg3 57 (by decide) (by decide) (by decide), hfrg3 63 (by decide) (by decide) (by decide), hfrg3 60 (by decide) (by decide) (by decide)]; exact hrid r hr) hmtg3 hS6 homg3 hPx (by simp; omega) hP64x hPqx (by simp; omega) so hsg3) co_X10_orders in_X10 ml_X10_253 im_X10_orders se_X10_orders rfl rfl ar_X10_orders ⟨by decide, by decide, by decide, by decide⟩ rfl (Nat.le_of_ble_eq_true rfl) dX10_orders_189 (a_dF ?_) a_nF
                  intro vg4 g4 hvg4
                  obtain ⟨rfl, hsg4, h8xg4, hfg4, h4g4⟩ := hvg4
                  rw [hmB, rtg3] at hsg4
                  have hfrg4 : (∀ o2, o2 ≠ 40 → (o2 < 75 ∨ 76 < o2) → (o2 < 83 ∨ 84 < o2) → g4 o2 = f o2) := fun o2 h1 h2 h3 => (hfg4 o2 h1 h2 h3).trans (hfrg3 o2 h1 h2 h3)
                  have h40g4 : (∀ i, i ≠ 37 → i ≠ 45 → g4 40 i = f 40 i) := fun i h1 h2 => (h4g4 i h1 h2).trans (h40g3 i h1 h2)
                  have h84g4 : ∀ j, j < Pf.length → g4 84 j = f 84 j := fun j h => (h8xg4 j (by simp; omega)).trans ((by rw [eg3, ii_up_k _ _ (by omega)] : g3 84 j = g 84 j).trans (h84g j h))
                  refine a_iinc (L' := [(0, .ref (ad 40)), (1, ii_v ((b : Nat) : Int)), (2, ii_v ((Pf.length : Nat) : Int)), (3, ii_v (((t : Nat) : Int) + 1))]) C dX10_orders_192 rfl (by decide) rfl ?_
                  refine a_goto (tgt := 114) C dX10_orders_195 rfl ?_
                  exact ih114 (t + 1) g4 (om_f v (mB f n b) (f 40 32) S n 3 (Pf ++ [t]) so) (by omega) (by omega) hsg4 h84g4 hfrg4 h40g4 (by rw [om_k, hE, hST]; exact if_pos ⟨h130, h139, (fun z => h160 z.2.1)⟩)
                · skip
                  refine a_aload_n C dX10_orders_163 rfl ?_
                  refine a_iload_n C dX10_orders_164 rfl ?_
                  refine a_iconst C dX10_orders_165 ?_
                  refine a_isub C dX10_orders_166 ?_
                  rw [show ((t : Nat) : Int) - 1 = ((t - 1 : Nat) : Int) by omega]
                  refine a_iload_n C dX10_orders_167 rfl ?_
                  refine a_callV (o := 40) (As := [ii_v (((t - 1) : Nat) : Int), ii_v ((Pf.length : Nat) : Int)]) C (m_isTaken hl g w hPg hP8 hP64 (t - 1) (by omega)) co_X10_isTaken in_X10 ml_X10_250 im_X10_isTaken se_X10_isTaken rfl rfl ar_X10_isTaken ⟨by decide, by decide, by decide, by decide⟩ rfl (Nat.le_of_ble_eq_true rfl) dX10_orders_168 (a_dR ?_) a_nR
                  refine a_bif_ne (tgt := 177) C dX10_orders_171 rfl (fun h171 => ?_) (fun h171 => ?_)
                  · skip
                    refine a_aload_n C dX10_orders_177 rfl ?_
                    refine a_get (ci := 11) (i := 44) (v := .ref (ad 84)) C iw_X10 rfl (by decide) rfl fl_X10_111 rfl rfl dX10_orders_178 ?_
                    refine a_iload_n C dX10_orders_181 rfl ?_
                    refine a_iload_n C dX10_orders_182 rfl ?_
                    refine a_iast (o := 84) (N := 8) Pf.length C dX10_orders_183 rfl (by omega) (by omega) (by decide) ?_
                    obtain ⟨g5, eg5⟩ : ∃ F : Nat → Nat → Int, F = ii_up g 84 Pf.length ((t : Nat) : Int) := ⟨_, rfl⟩
                    rw [← eg5]
                    have hfrg5 : (∀ o2, o2 ≠ 40 → (o2 < 75 ∨ 76 < o2) → (o2 < 83 ∨ 84 < o2) → g5 o2 = f o2) := fun o2 h1 h2 h3 => by rw [eg5, ii_up_row _ _ (by omega)]; exact hfrg o2 h1 h2 h3
                    have h40g5 : (∀ i, i ≠ 37 → i ≠ 45 → g5 40 i = f 40 i) := fun i h1 h2 => by rw [eg5, ii_up_o _ _ _ (by decide)]; exact h40g i h1 h2
                    have hvpg5 : pj_C g5 v := pj_same hv (fun o2 h => hfrg5 o2 (by omega) (by omega) (by omega))
                    have r41g5 : g5 41 = f 41 := hfrg5 41 (by decide) (by decide) (by decide)
                    have r43g5 : g5 43 = f 43 := hfrg5 43 (by decide) (by decide) (by decide)
                    have r44g5 : g5 44 = f 44 := hfrg5 44 (by decide) (by decide) (by decide)
                    have r45g5 : g5 45 = f 45 := hfrg5 45 (by decide) (by decide) (by decide)
                    have r46g5 : g5 46 = f 46 := hfrg5 46 (by decide) (by decide) (by decide)
                    have r47g5 : g5 47 = f 47 := hfrg5 47 (by decide) (by decide) (by decide)
                    have rtg5 : g5 40 32 = f 40 32 := h40g5 32 (by decide) (by decide)
                    have rag5 : ab_n g5 b n = ab_n f b n := ab_same (hfrg5 57 (by decide) (by decide) (by decide)) (hfrg5 63 (by decide) (by decide) (by decide)) (hfrg5 60 (by decide) (by decide) (by decide)) b n
                    have hBpg5 : pk_B g5 b := by unfold pk_B; rw [r41g5, r43g5, r44g5, r45g5, r46g5, r47g5]; exact hB
                    have hmtg5 : mt_I g5 b S := mt_same hS (hfrg5 51 (by decide) (by decide) (by decide)) (hfrg5 52 (by decide) (by decide) (by decide))
                    have homg5 : g5 40 46 = (S.length : Int) := (h40g5 46 (by decide) (by decide)).trans hom
                    have hsg5 : bs_I g5 S.length so := bs_same hs (by rw [eg5, ii_up_o _ _ _ (by decide)]) (by rw [eg5]; exact ii_up_row _ _ (by decide))
                    have hPx : ∀ j, j < (Pf ++ [t]).length → g5 84 j = (((Pf ++ [t]).getD j 0 : Nat) : Int) := fun j h => by rw [eg5]; exact tk_app hPg j h
                    have hP64x : ∀ j, j < (Pf ++ [t]).length → (Pf ++ [t]).getD j 0 < 64 := tk_all (p := fun q => q < 64) hP64 (by show t < 64; omega)
                    have hPqx : ∀ j, j < (Pf ++ [t]).length → (Pf ++ [t]).getD j 0 / 2 ≤ 30 := tk_all (p := fun q => q / 2 ≤ 30) hPq (by show t / 2 ≤ 30; omega)
                    have hmB : mB g5 n b = mB f n b := mB_same r41g5 r43g5 r44g5 r45g5 r46g5 r47g5 rag5
                    refine a_aload_n C dX10_orders_184 rfl ?_
                    refine a_iload_n C dX10_orders_185 rfl ?_
                    refine a_iload_n C dX10_orders_186 rfl ?_
                    refine a_iconst C dX10_orders_187 ?_
                    refine a_iadd C dX10_orders_188 ?_
                    rw [show ((Pf.length : Nat) : Int) + 1 = (((Pf ++ [t]).length : Nat) : Int) by simp]
                    refine a_callV (o := 40) (As := [ii_v ((b : Nat) : Int), ii_v (((Pf ++ [t]).length : Nat) : Int)]) C (m_orders3 hl g5 w b hb hvpg5 hBpg5 (by rw [rtg5]; exact hnow) n (by rw [h40g5 30 (by decide) (by decide)]; exact hn) hn30 (fun r hr => by rw [hfrg5 57 (by decide) (by decide) (by decide), hfrg5 63 (by decide) (by decide) (by decide), hfrg5 60 (by decide) (by decide) (by decide)]; exact hrid r hr) hmtg5 hS6 homg5 hPx (by simp; omega) hP64x hPqx (by simp; omega) so hsg5) co_X10_orders in_X10 ml_X10_253 im_X10_orders se_X10_orders rfl rfl ar_X10_orders ⟨by decide, by decide, by decide, by decide⟩ rfl (Nat.le_of_ble_eq_true rfl) dX10_orders_189 (a_dF ?_) a_nF
                    intro vg6 g6 hvg6
                    obtain ⟨rfl, hsg6, h8xg6, hfg6, h4g6⟩ := hvg6
                    rw [hmB, rtg5] at hsg6
                    have hfrg6 : (∀ o2, o2 ≠ 40 → (o2 < 75 ∨ 76 < o2) → (o2 < 83 ∨ 84 < o2) → g6 o2 = f o2) := fun o2 h1 h2 h3 => (hfg6 o2 h1 h2 h3).trans (hfrg5 o2 h1 h2 h3)
                    have h40g6 : (∀ i, i ≠ 37 → i ≠ 45 → g6 40 i = f 40 i) := fun i h1 h2 => (h4g6 i h1 h2).trans (h40g5 i h1 h2)
                    have h84g6 : ∀ j, j < Pf.length → g6 84 j = f 84 j := fun j h => (h8xg6 j (by simp; omega)).trans ((by rw [eg5, ii_up_k _ _ (by omega)] : g5 84 j = g 84 j).trans (h84g j h))
                    refine a_iinc (L' := [(0, .ref (ad 40)), (1, ii_v ((b : Nat) : Int)), (2, ii_v ((Pf.length : Nat) : Int)), (3, ii_v (((t : Nat) : Int) + 1))]) C dX10_orders_192 rfl (by decide) rfl ?_
                    refine a_goto (tgt := 114) C dX10_orders_195 rfl ?_
                    exact ih114 (t + 1) g6 (om_f v (mB f n b) (f 40 32) S n 3 (Pf ++ [t]) so) (by omega) (by omega) hsg6 h84g6 hfrg6 h40g6 (by rw [om_k, hE, hST]; exact if_pos ⟨h130, h139, (fun z => z.2.2 h171)⟩)
                  · skip
                    refine a_goto (tgt := 192) C dX10_orders_174 rfl ?_
                    refine a_iinc (L' := [(0, .ref (ad 40)), (1, ii_v ((b : Nat) : Int)), (2, ii_v ((Pf.length : Nat) : Int)), (3, ii_v (((t : Nat) : Int) + 1))]) C dX10_orders_192 rfl (by decide) rfl ?_
                    refine a_goto (tgt := 114) C dX10_orders_195 rfl ?_
                    exact ih114 (t + 1) g so (by omega) (by omega) hs h84g hfrg h40g (by rw [om_k, hE, hST]; exact if_neg (fun z => z.2.2 ⟨h149, h160, h171⟩))
            · skip
              refine a_goto (tgt := 192) C dX10_orders_142 rfl ?_
              refine a_iinc (L' := [(0, .ref (ad 40)), (1, ii_v ((b : Nat) : Int)), (2, ii_v ((Pf.length : Nat) : Int)), (3, ii_v (((t : Nat) : Int) + 1))]) C dX10_orders_192 rfl (by decide) rfl ?_
              refine a_goto (tgt := 114) C dX10_orders_195 rfl ?_
              exact ih114 (t + 1) g so (by omega) (by omega) hs h84g hfrg h40g (by rw [om_k, hE, hST]; exact if_neg (fun z => z.2.1 h139))
    exact loop114 (_ + 1) 0 f s0 (Nat.lt_succ_self _) (Nat.zero_le _) hs (fun _ _ => rfl) (fun _ _ _ _ => rfl) (fun _ _ _ => rfl) rfl
  · skip
    omega
set_option maxRecDepth 20000 in
set_option maxHeartbeats 2000000 in
theorem m_orders5 {l : Launch} {E : ab_E} {base : Nat} (hl : l.stackTraces = false) {ad : Nat → Nat} (f : Nat → Nat → Int) (w : Nat × Nat × Int64 × UInt64) (b : Nat) (hb : b < 4) {v : Nat → Nat → Int} (hv : pj_C f v) (hB : pk_B f b) (hnow : 0 ≤ f 40 32 ∧ f 40 32 ≤ 100000) (n : Nat) (hn : f 40 30 = (n : Int)) (hn30 : n ≤ 30) (hrid : ∀ r, r < n → (0 ≤ f 57 r ∧ f 57 r ≤ 6) ∧ st_ok (f 63 r) ∧ -1 ≤ f 60 r ∧ f 60 r ≤ 10) {S : List Nat} (hS : mt_I f b S) (hS6 : S.length ≤ 6) (hom : f 40 46 = (S.length : Int)) {Pf : List Nat} (hP : ∀ j, j < Pf.length → f 84 j = ((Pf.getD j 0 : Nat) : Int)) (hP8 : Pf.length ≤ 8) (hP64 : ∀ j, j < Pf.length → Pf.getD j 0 < 64) (hPq : ∀ j, j < Pf.length → Pf.getD j 0 / 2 ≤ 30) (hPL : Pf.length + 5 = S.length) (s0 : om_S) (hs : bs_I f S.length s0)  : ab_M l E base yX10_orders cX10_orders 5 none 12 0 0 [.ref (ad 40), ii_v ((b : Nat) : Int), ii_v ((Pf.length : Nat) : Int)] ab_x4 ad (f, w) (ab_F ad w (fun ov g => ov = none ∧ bs_I g S.length (om_f v (mB f n b) (f 40 32) S n 5 Pf s0) ∧ (∀ j, j < Pf.length → g 84 j = f 84 j) ∧ (∀ o2, o2 ≠ 40 → (o2 < 75 ∨ 76 < o2) → (o2 < 83 ∨ 84 < o2) → g o2 = f o2) ∧ (∀ i, i ≠ 37 → i ≠ 45 → g 40 i = f 40 i))) := by
  obtain ⟨Post, hPost⟩ : ∃ P : ab_P, P = (ab_F ad w (fun ov g => ov = none ∧ bs_I g S.length (om_f v (mB f n b) (f 40 32) S n 5 Pf s0) ∧ (∀ j, j < Pf.length → g 84 j = f 84 j) ∧ (∀ o2, o2 ≠ 40 → (o2 < 75 ∨ 76 < o2) → (o2 < 83 ∨ 84 < o2) → g o2 = f o2) ∧ (∀ i, i ≠ 37 → i ≠ 45 → g 40 i = f 40 i))) := ⟨_, rfl⟩
  rw [← hPost]
  refine ab_of RX10 [(0, .ref (ad 40)), (1, ii_v ((b : Nat) : Int)), (2, ii_v ((Pf.length : Nat) : Int))] hl (by decide) rfl (Nat.le_of_ble_eq_true rfl) rfl ?_
  intro p e s m args below meth c C T0 hnm
  obtain ⟨hB1, hB2, hB3, hB4, hB5, hB6⟩ := id hB
  have hPl : Pf.length + 5 = S.length := by omega
  obtain ⟨ST, hST⟩ : ∃ ST : Nat → om_S → om_S, ST = (fun t s => if t ∈ S ∧ ¬ t ∈ Pf ∧ ¬ (¬ t % 2 = 0 ∧ t - 1 ∈ S ∧ ¬ t - 1 ∈ Pf) then om_f v (mB f n b) (f 40 32) S n 4 (Pf ++ [t]) s else s) := ⟨_, rfl⟩
  refine a_iload_n C dX10_orders_0 rfl ?_
  refine a_aload_n C dX10_orders_1 rfl ?_
  refine a_get (ci := 11) (i := 46) (v := ii_v (f 40 46)) C iw_X10 rfl (by decide) rfl fl_X10_241 rfl rfl dX10_orders_2 ?_
  refine a_top (w := ii_v ((S.length : Nat) : Int)) (congrArg (fun q => ii_v q) hom) ?_
  refine a_icmp_ne (tgt := 112) C dX10_orders_5 rfl (by unfold ii_B; omega) (by unfold ii_B; omega) (fun h5 => ?_) (fun h5 => ?_)
  · skip
    refine a_iconst C dX10_orders_112 ?_
    refine a_istore_n (L' := [(0, .ref (ad 40)), (1, ii_v ((b : Nat) : Int)), (2, ii_v ((Pf.length : Nat) : Int)), (3, ii_v 0)]) C dX10_orders_113 (by decide) rfl ?_
    have loop114 : ∀ (NN114 : Nat) (t : Nat) (g : Nat → Nat → Int) (so : om_S), 2 * n - t < NN114 → (t ≤ 2 * n) → (bs_I g S.length so) → (∀ j, j < Pf.length → g 84 j = f 84 j) → ((∀ o2, o2 ≠ 40 → (o2 < 75 ∨ 76 < o2) → (o2 < 83 ∨ 84 < o2) → g o2 = f o2)) → ((∀ i, i ≠ 37 → i ≠ 45 → g 40 i = f 40 i)) → (om_k ST t s0 = so) → ab_W p l e (ab_rm 12 0 0) s m args below meth c E base 5 (ab_Q below E base Post args s 0 0) ab_x4 ad (g, w) 0 0 114 [(0, .ref (ad 40)), (1, ii_v ((b : Nat) : Int)), (2, ii_v ((Pf.length : Nat) : Int)), (3, ii_v ((t : Nat) : Int))] [] := by
      intro NN114
      induction NN114 with
      | zero => intro t g so hNN; exact absurd hNN (Nat.not_lt_zero _)
      | succ NN114 ih114 =>
        intro t g so hNN ht2 hs h84g hfrg h40g hE
        have hmtg : mt_I g b S := mt_same hS (hfrg 51 (by decide) (by decide) (by decide)) (hfrg 52 (by decide) (by decide) (by decide))
        have homg : g 40 46 = (S.length : Int) := (h40g 46 (by decide) (by decide)).trans hom
        have hPg : ∀ j, j < Pf.length → g 84 j = ((Pf.getD j 0 : Nat) : Int) := fun j h => (h84g j h).trans (hP j h)
        refine a_iload_n C dX10_orders_114 rfl ?_
        refine a_iconst C dX10_orders_115 ?_
        refine a_aload_n C dX10_orders_116 rfl ?_
        refine a_get (ci := 11) (i := 30) (v := ii_v (g 40 30)) C iw_X10 rfl (by decide) rfl fl_X10_124 rfl rfl dX10_orders_117 ?_
        refine a_top (w := ii_v ((n : Nat) : Int)) (congrArg (fun q => ii_v q) ((h40g 30 (by decide) (by decide)).trans hn)) ?_
        refine a_imul C dX10_orders_120 ?_
        refine a_icmp_ge (tgt := 198) C dX10_orders_121 rfl (by unfold ii_B; omega) (by unfold ii_B; omega) (fun h121 => ?_) (fun h121 => ?_)
        · skip
          refine a_vret C ?_ (by decide) (by decide) dX10_orders_198
          rw [hPost]
          refine ab_F_of ⟨rfl, ?_, h84g, hfrg, h40g⟩
          rw [om_f, ← hST, show 2 * n = t by omega, hE]
          exact hs
        · skip
          refine a_aload_n C dX10_orders_124 rfl ?_
          refine a_iload_n C dX10_orders_125 rfl ?_
          refine a_iload_n C dX10_orders_126 rfl ?_
          refine a_callV (o := 40) (As := [ii_v ((b : Nat) : Int), ii_v ((t : Nat) : Int)]) C (m_isOnTour hl g w b hb hmtg hS6 homg t (by omega)) co_X10_isOnTour in_X10 ml_X10_247 im_X10_isOnTour se_X10_isOnTour rfl rfl ar_X10_isOnTour ⟨by decide, by decide, by decide, by decide⟩ rfl (Nat.le_of_ble_eq_true rfl) dX10_orders_127 (a_dR ?_) a_nR
          refine a_bif_eq (tgt := 192) C dX10_orders_130 rfl (fun h130 => ?_) (fun h130 => ?_)
          · skip
            refine a_iinc (L' := [(0, .ref (ad 40)), (1, ii_v ((b : Nat) : Int)), (2, ii_v ((Pf.length : Nat) : Int)), (3, ii_v (((t : Nat) : Int) + 1))]) C dX10_orders_192 rfl (by decide) rfl ?_
            refine a_goto (tgt := 114) C dX10_orders_195 rfl ?_
            exact ih114 (t + 1) g so (by omega) (by omega) hs h84g hfrg h40g (by rw [om_k, hE, hST]; exact if_neg (fun z => h130 z.1))
          · skip
            refine a_aload_n C dX10_orders_133 rfl ?_
            refine a_iload_n C dX10_orders_134 rfl ?_
            refine a_iload_n C dX10_orders_135 rfl ?_
            refine a_callV (o := 40) (As := [ii_v ((t : Nat) : Int), ii_v ((Pf.length : Nat) : Int)]) C (m_isTaken hl g w hPg hP8 hP64 t (by omega)) co_X10_isTaken in_X10 ml_X10_250 im_X10_isTaken se_X10_isTaken rfl rfl ar_X10_isTaken ⟨by decide, by decide, by decide, by decide⟩ rfl (Nat.le_of_ble_eq_true rfl) dX10_orders_136 (a_dR ?_) a_nR
            refine a_bif_eq (tgt := 145) C dX10_orders_139 rfl (fun h139 => ?_) (fun h139 => ?_)
            · skip
              refine a_iload_n C dX10_orders_145 rfl ?_
              refine a_callS (As := [ii_v ((t : Nat) : Int)]) C (m_isDrop hl g w t (by omega)) co_X10_isDrop in_X10 ml_X10_135 sc_X10_isDrop ar_X10_isDrop ⟨by decide, by decide, by decide, by decide⟩ rfl (Nat.le_of_ble_eq_true rfl) dX10_orders_146 (a_dR ?_) a_nR
              rw [md_iff (P := t % 2 = 0)]
              refine a_bif_eq (tgt := 177) C dX10_orders_149 rfl (fun h149 => ?_) (fun h149 => ?_)
              · skip
                refine a_aload_n C dX10_orders_177 rfl ?_
                refine a_get (ci := 11) (i := 44) (v := .ref (ad 84)) C iw_X10 rfl (by decide) rfl fl_X10_111 rfl rfl dX10_orders_178 ?_
                refine a_iload_n C dX10_orders_181 rfl ?_
                refine a_iload_n C dX10_orders_182 rfl ?_
                refine a_iast (o := 84) (N := 8) Pf.length C dX10_orders_183 rfl (by omega) (by omega) (by decide) ?_
                obtain ⟨g1, eg1⟩ : ∃ F : Nat → Nat → Int, F = ii_up g 84 Pf.length ((t : Nat) : Int) := ⟨_, rfl⟩
                rw [← eg1]
                have hfrg1 : (∀ o2, o2 ≠ 40 → (o2 < 75 ∨ 76 < o2) → (o2 < 83 ∨ 84 < o2) → g1 o2 = f o2) := fun o2 h1 h2 h3 => by rw [eg1, ii_up_row _ _ (by omega)]; exact hfrg o2 h1 h2 h3
                have h40g1 : (∀ i, i ≠ 37 → i ≠ 45 → g1 40 i = f 40 i) := fun i h1 h2 => by rw [eg1, ii_up_o _ _ _ (by decide)]; exact h40g i h1 h2
                have hvpg1 : pj_C g1 v := pj_same hv (fun o2 h => hfrg1 o2 (by omega) (by omega) (by omega))
                have r41g1 : g1 41 = f 41 := hfrg1 41 (by decide) (by decide) (by decide)
                have r43g1 : g1 43 = f 43 := hfrg1 43 (by decide) (by decide) (by decide)
                have r44g1 : g1 44 = f 44 := hfrg1 44 (by decide) (by decide) (by decide)
                have r45g1 : g1 45 = f 45 := hfrg1 45 (by decide) (by decide) (by decide)
                have r46g1 : g1 46 = f 46 := hfrg1 46 (by decide) (by decide) (by decide)
                have r47g1 : g1 47 = f 47 := hfrg1 47 (by decide) (by decide) (by decide)
                have rtg1 : g1 40 32 = f 40 32 := h40g1 32 (by decide) (by decide)
                have rag1 : ab_n g1 b n = ab_n f b n := ab_same (hfrg1 57 (by decide) (by decide) (by decide)) (hfrg1 63 (by decide) (by decide) (by decide)) (hfrg1 60 (by decide) (by decide) (by decide)) b n
                have hBpg1 : pk_B g1 b := by unfold pk_B; rw [r41g1, r43g1, r44g1, r45g1, r46g1, r47g1]; exact hB
                have hmtg1 : mt_I g1 b S := mt_same hS (hfrg1 51 (by decide) (by decide) (by decide)) (hfrg1 52 (by decide) (by decide) (by decide))
                have homg1 : g1 40 46 = (S.length : Int) := (h40g1 46 (by decide) (by decide)).trans hom
                have hsg1 : bs_I g1 S.length so := bs_same hs (by rw [eg1, ii_up_o _ _ _ (by decide)]) (by rw [eg1]; exact ii_up_row _ _ (by decide))
                have hPx : ∀ j, j < (Pf ++ [t]).length → g1 84 j = (((Pf ++ [t]).getD j 0 : Nat) : Int) := fun j h => by rw [eg1]; exact tk_app hPg j h
                have hP64x : ∀ j, j < (Pf ++ [t]).length → (Pf ++ [t]).getD j 0 < 64 := tk_all (p := fun q => q < 64) hP64 (by show t < 64; omega)
                have hPqx : ∀ j, j < (Pf ++ [t]).length → (Pf ++ [t]).getD j 0 / 2 ≤ 30 := tk_all (p := fun q => q / 2 ≤ 30) hPq (by show t / 2 ≤ 30; omega)
                have hmB : mB g1 n b = mB f n b := mB_same r41g1 r43g1 r44g1 r45g1 r46g1 r47g1 rag1
                refine a_aload_n C dX10_orders_184 rfl ?_
                refine a_iload_n C dX10_orders_185 rfl ?_
                refine a_iload_n C dX10_orders_186 rfl ?_
                refine a_iconst C dX10_orders_187 ?_
                refine a_iadd C dX10_orders_188 ?_
                rw [show ((Pf.length : Nat) : Int) + 1 = (((Pf ++ [t]).length : Nat) : Int) by simp]
                refine a_callV (o := 40) (As := [ii_v ((b : Nat) : Int), ii_v (((Pf ++ [t]).length : Nat) : Int)]) C (m_orders4 hl g1 w b hb hvpg1 hBpg1 (by rw [rtg1]; exact hnow) n (by rw [h40g1 30 (by decide) (by decide)]; exact hn) hn30 (fun r hr => by rw [hfrg1 57 (by decide) (by decide) (by decide), hfrg1 63 (by decide) (by decide) (by decide), hfrg1 60 (by decide) (by decide) (by decide)]; exact hrid r hr) hmtg1 hS6 homg1 hPx (by simp; omega) hP64x hPqx (by simp; omega) so hsg1) co_X10_orders in_X10 ml_X10_253 im_X10_orders se_X10_orders rfl rfl ar_X10_orders ⟨by decide, by decide, by decide, by decide⟩ rfl (Nat.le_of_ble_eq_true rfl) dX10_orders_189 (a_dF ?_) a_nF
                intro vg2 g2 hvg2
                obtain ⟨rfl, hsg2, h8xg2, hfg2, h4g2⟩ := hvg2
                rw [hmB, rtg1] at hsg2
                have hfrg2 : (∀ o2, o2 ≠ 40 → (o2 < 75 ∨ 76 < o2) → (o2 < 83 ∨ 84 < o2) → g2 o2 = f o2) := fun o2 h1 h2 h3 => (hfg2 o2 h1 h2 h3).trans (hfrg1 o2 h1 h2 h3)
                have h40g2 : (∀ i, i ≠ 37 → i ≠ 45 → g2 40 i = f 40 i) := fun i h1 h2 => (h4g2 i h1 h2).trans (h40g1 i h1 h2)
                have h84g2 : ∀ j, j < Pf.length → g2 84 j = f 84 j := fun j h => (h8xg2 j (by simp; omega)).trans ((by rw [eg1, ii_up_k _ _ (by omega)] : g1 84 j = g 84 j).trans (h84g j h))
                refine a_iinc (L' := [(0, .ref (ad 40)), (1, ii_v ((b : Nat) : Int)), (2, ii_v ((Pf.length : Nat) : Int)), (3, ii_v (((t : Nat) : Int) + 1))]) C dX10_orders_192 rfl (by decide) rfl ?_
                refine a_goto (tgt := 114) C dX10_orders_195 rfl ?_
                exact ih114 (t + 1) g2 (om_f v (mB f n b) (f 40 32) S n 4 (Pf ++ [t]) so) (by omega) (by omega) hsg2 h84g2 hfrg2 h40g2 (by rw [om_k, hE, hST]; exact if_pos ⟨h130, h139, (fun z => h149 z.1)⟩)
              · skip
                refine a_aload_n C dX10_orders_152 rfl ?_
                refine a_iload_n C dX10_orders_153 rfl ?_
                refine a_iload_n C dX10_orders_154 rfl ?_
                refine a_iconst C dX10_orders_155 ?_
                refine a_isub C dX10_orders_156 ?_
                rw [show ((t : Nat) : Int) - 1 = ((t - 1 : Nat) : Int) by omega]
                refine a_callV (o := 40) (As := [ii_v ((b : Nat) : Int), ii_v (((t - 1) : Nat) : Int)]) C (m_isOnTour hl g w b hb hmtg hS6 homg (t - 1) (by omega)) co_X10_isOnTour in_X10 ml_X10_247 im_X10_isOnTour se_X10_isOnTour rfl rfl ar_X10_isOnTour ⟨by decide, by decide, by decide, by decide⟩ rfl (Nat.le_of_ble_eq_true rfl) dX10_orders_157 (a_dR ?_) a_nR
                refine a_bif_eq (tgt := 177) C dX10_orders_160 rfl (fun h160 => ?_) (fun h160 => ?_)
                · skip
                  refine a_aload_n C dX10_orders_177 rfl ?_
                  refine a_get (ci := 11) (i := 44) (v := .ref (ad 84)) C iw_X10 rfl (by decide) rfl fl_X10_111 rfl rfl dX10_orders_178 ?_
                  refine a_iload_n C dX10_orders_181 rfl ?_
                  refine a_iload_n C dX10_orders_182 rfl ?_
                  refine a_iast (o := 84) (N := 8) Pf.length C dX10_orders_183 rfl (by omega) (by omega) (by decide) ?_
                  obtain ⟨g3, eg3⟩ : ∃ F : Nat → Nat → Int, F = ii_up g 84 Pf.length ((t : Nat) : Int) := ⟨_, rfl⟩
                  rw [← eg3]
                  have hfrg3 : (∀ o2, o2 ≠ 40 → (o2 < 75 ∨ 76 < o2) → (o2 < 83 ∨ 84 < o2) → g3 o2 = f o2) := fun o2 h1 h2 h3 => by rw [eg3, ii_up_row _ _ (by omega)]; exact hfrg o2 h1 h2 h3
                  have h40g3 : (∀ i, i ≠ 37 → i ≠ 45 → g3 40 i = f 40 i) := fun i h1 h2 => by rw [eg3, ii_up_o _ _ _ (by decide)]; exact h40g i h1 h2
                  have hvpg3 : pj_C g3 v := pj_same hv (fun o2 h => hfrg3 o2 (by omega) (by omega) (by omega))
                  have r41g3 : g3 41 = f 41 := hfrg3 41 (by decide) (by decide) (by decide)
                  have r43g3 : g3 43 = f 43 := hfrg3 43 (by decide) (by decide) (by decide)
                  have r44g3 : g3 44 = f 44 := hfrg3 44 (by decide) (by decide) (by decide)
                  have r45g3 : g3 45 = f 45 := hfrg3 45 (by decide) (by decide) (by decide)
                  have r46g3 : g3 46 = f 46 := hfrg3 46 (by decide) (by decide) (by decide)
                  have r47g3 : g3 47 = f 47 := hfrg3 47 (by decide) (by decide) (by decide)
                  have rtg3 : g3 40 32 = f 40 32 := h40g3 32 (by decide) (by decide)
                  have rag3 : ab_n g3 b n = ab_n f b n := ab_same (hfrg3 57 (by decide) (by decide) (by decide)) (hfrg3 63 (by decide) (by decide) (by decide)) (hfrg3 60 (by decide) (by decide) (by decide)) b n
                  have hBpg3 : pk_B g3 b := by unfold pk_B; rw [r41g3, r43g3, r44g3, r45g3, r46g3, r47g3]; exact hB
                  have hmtg3 : mt_I g3 b S := mt_same hS (hfrg3 51 (by decide) (by decide) (by decide)) (hfrg3 52 (by decide) (by decide) (by decide))
                  have homg3 : g3 40 46 = (S.length : Int) := (h40g3 46 (by decide) (by decide)).trans hom
                  have hsg3 : bs_I g3 S.length so := bs_same hs (by rw [eg3, ii_up_o _ _ _ (by decide)]) (by rw [eg3]; exact ii_up_row _ _ (by decide))
                  have hPx : ∀ j, j < (Pf ++ [t]).length → g3 84 j = (((Pf ++ [t]).getD j 0 : Nat) : Int) := fun j h => by rw [eg3]; exact tk_app hPg j h
                  have hP64x : ∀ j, j < (Pf ++ [t]).length → (Pf ++ [t]).getD j 0 < 64 := tk_all (p := fun q => q < 64) hP64 (by show t < 64; omega)
                  have hPqx : ∀ j, j < (Pf ++ [t]).length → (Pf ++ [t]).getD j 0 / 2 ≤ 30 := tk_all (p := fun q => q / 2 ≤ 30) hPq (by show t / 2 ≤ 30; omega)
                  have hmB : mB g3 n b = mB f n b := mB_same r41g3 r43g3 r44g3 r45g3 r46g3 r47g3 rag3
                  refine a_aload_n C dX10_orders_184 rfl ?_
                  refine a_iload_n C dX10_orders_185 rfl ?_
                  refine a_iload_n C dX10_orders_186 rfl ?_
                  refine a_iconst C dX10_orders_187 ?_
                  refine a_iadd C dX10_orders_188 ?_
                  rw [show ((Pf.length : Nat) : Int) + 1 = (((Pf ++ [t]).length : Nat) : Int) by simp]
                  refine a_callV (o := 40) (As := [ii_v ((b : Nat) : Int), ii_v (((Pf ++ [t]).length : Nat) : Int)]) C (m_orders4 hl g3 w b hb hvpg3 hBpg3 (by rw [rtg3]; exact hnow) n (by rw [h40g3 30 (by decide) (by decide)]; exact hn) hn30 (fun r hr => by rw [hfrg3 57 (by decide) (by decide) (by decide), hfrg3 63 (by decide) (by decide) (by decide), hfrg3 60 (by decide) (by decide) (by decide)]; exact hrid r hr) hmtg3 hS6 homg3 hPx (by simp; omega) hP64x hPqx (by simp; omega) so hsg3) co_X10_orders in_X10 ml_X10_253 im_X10_orders se_X10_orders rfl rfl ar_X10_orders ⟨by decide, by decide, by decide, by decide⟩ rfl (Nat.le_of_ble_eq_true rfl) dX10_orders_189 (a_dF ?_) a_nF
                  intro vg4 g4 hvg4
                  obtain ⟨rfl, hsg4, h8xg4, hfg4, h4g4⟩ := hvg4
                  rw [hmB, rtg3] at hsg4
                  have hfrg4 : (∀ o2, o2 ≠ 40 → (o2 < 75 ∨ 76 < o2) → (o2 < 83 ∨ 84 < o2) → g4 o2 = f o2) := fun o2 h1 h2 h3 => (hfg4 o2 h1 h2 h3).trans (hfrg3 o2 h1 h2 h3)
                  have h40g4 : (∀ i, i ≠ 37 → i ≠ 45 → g4 40 i = f 40 i) := fun i h1 h2 => (h4g4 i h1 h2).trans (h40g3 i h1 h2)
                  have h84g4 : ∀ j, j < Pf.length → g4 84 j = f 84 j := fun j h => (h8xg4 j (by simp; omega)).trans ((by rw [eg3, ii_up_k _ _ (by omega)] : g3 84 j = g 84 j).trans (h84g j h))
                  refine a_iinc (L' := [(0, .ref (ad 40)), (1, ii_v ((b : Nat) : Int)), (2, ii_v ((Pf.length : Nat) : Int)), (3, ii_v (((t : Nat) : Int) + 1))]) C dX10_orders_192 rfl (by decide) rfl ?_
                  refine a_goto (tgt := 114) C dX10_orders_195 rfl ?_
                  exact ih114 (t + 1) g4 (om_f v (mB f n b) (f 40 32) S n 4 (Pf ++ [t]) so) (by omega) (by omega) hsg4 h84g4 hfrg4 h40g4 (by rw [om_k, hE, hST]; exact if_pos ⟨h130, h139, (fun z => h160 z.2.1)⟩)
                · skip
                  refine a_aload_n C dX10_orders_163 rfl ?_
                  refine a_iload_n C dX10_orders_164 rfl ?_
                  refine a_iconst C dX10_orders_165 ?_
                  refine a_isub C dX10_orders_166 ?_
                  rw [show ((t : Nat) : Int) - 1 = ((t - 1 : Nat) : Int) by omega]
                  refine a_iload_n C dX10_orders_167 rfl ?_
                  refine a_callV (o := 40) (As := [ii_v (((t - 1) : Nat) : Int), ii_v ((Pf.length : Nat) : Int)]) C (m_isTaken hl g w hPg hP8 hP64 (t - 1) (by omega)) co_X10_isTaken in_X10 ml_X10_250 im_X10_isTaken se_X10_isTaken rfl rfl ar_X10_isTaken ⟨by decide, by decide, by decide, by decide⟩ rfl (Nat.le_of_ble_eq_true rfl) dX10_orders_168 (a_dR ?_) a_nR
                  refine a_bif_ne (tgt := 177) C dX10_orders_171 rfl (fun h171 => ?_) (fun h171 => ?_)
                  · skip
                    refine a_aload_n C dX10_orders_177 rfl ?_
                    refine a_get (ci := 11) (i := 44) (v := .ref (ad 84)) C iw_X10 rfl (by decide) rfl fl_X10_111 rfl rfl dX10_orders_178 ?_
                    refine a_iload_n C dX10_orders_181 rfl ?_
                    refine a_iload_n C dX10_orders_182 rfl ?_
                    refine a_iast (o := 84) (N := 8) Pf.length C dX10_orders_183 rfl (by omega) (by omega) (by decide) ?_
                    obtain ⟨g5, eg5⟩ : ∃ F : Nat → Nat → Int, F = ii_up g 84 Pf.length ((t : Nat) : Int) := ⟨_, rfl⟩
                    rw [← eg5]
                    have hfrg5 : (∀ o2, o2 ≠ 40 → (o2 < 75 ∨ 76 < o2) → (o2 < 83 ∨ 84 < o2) → g5 o2 = f o2) := fun o2 h1 h2 h3 => by rw [eg5, ii_up_row _ _ (by omega)]; exact hfrg o2 h1 h2 h3
                    have h40g5 : (∀ i, i ≠ 37 → i ≠ 45 → g5 40 i = f 40 i) := fun i h1 h2 => by rw [eg5, ii_up_o _ _ _ (by decide)]; exact h40g i h1 h2
                    have hvpg5 : pj_C g5 v := pj_same hv (fun o2 h => hfrg5 o2 (by omega) (by omega) (by omega))
                    have r41g5 : g5 41 = f 41 := hfrg5 41 (by decide) (by decide) (by decide)
                    have r43g5 : g5 43 = f 43 := hfrg5 43 (by decide) (by decide) (by decide)
                    have r44g5 : g5 44 = f 44 := hfrg5 44 (by decide) (by decide) (by decide)
                    have r45g5 : g5 45 = f 45 := hfrg5 45 (by decide) (by decide) (by decide)
                    have r46g5 : g5 46 = f 46 := hfrg5 46 (by decide) (by decide) (by decide)
                    have r47g5 : g5 47 = f 47 := hfrg5 47 (by decide) (by decide) (by decide)
                    have rtg5 : g5 40 32 = f 40 32 := h40g5 32 (by decide) (by decide)
                    have rag5 : ab_n g5 b n = ab_n f b n := ab_same (hfrg5 57 (by decide) (by decide) (by decide)) (hfrg5 63 (by decide) (by decide) (by decide)) (hfrg5 60 (by decide) (by decide) (by decide)) b n
                    have hBpg5 : pk_B g5 b := by unfold pk_B; rw [r41g5, r43g5, r44g5, r45g5, r46g5, r47g5]; exact hB
                    have hmtg5 : mt_I g5 b S := mt_same hS (hfrg5 51 (by decide) (by decide) (by decide)) (hfrg5 52 (by decide) (by decide) (by decide))
                    have homg5 : g5 40 46 = (S.length : Int) := (h40g5 46 (by decide) (by decide)).trans hom
                    have hsg5 : bs_I g5 S.length so := bs_same hs (by rw [eg5, ii_up_o _ _ _ (by decide)]) (by rw [eg5]; exact ii_up_row _ _ (by decide))
                    have hPx : ∀ j, j < (Pf ++ [t]).length → g5 84 j = (((Pf ++ [t]).getD j 0 : Nat) : Int) := fun j h => by rw [eg5]; exact tk_app hPg j h
                    have hP64x : ∀ j, j < (Pf ++ [t]).length → (Pf ++ [t]).getD j 0 < 64 := tk_all (p := fun q => q < 64) hP64 (by show t < 64; omega)
                    have hPqx : ∀ j, j < (Pf ++ [t]).length → (Pf ++ [t]).getD j 0 / 2 ≤ 30 := tk_all (p := fun q => q / 2 ≤ 30) hPq (by show t / 2 ≤ 30; omega)
                    have hmB : mB g5 n b = mB f n b := mB_same r41g5 r43g5 r44g5 r45g5 r46g5 r47g5 rag5
                    refine a_aload_n C dX10_orders_184 rfl ?_
                    refine a_iload_n C dX10_orders_185 rfl ?_
                    refine a_iload_n C dX10_orders_186 rfl ?_
                    refine a_iconst C dX10_orders_187 ?_
                    refine a_iadd C dX10_orders_188 ?_
                    rw [show ((Pf.length : Nat) : Int) + 1 = (((Pf ++ [t]).length : Nat) : Int) by simp]
                    refine a_callV (o := 40) (As := [ii_v ((b : Nat) : Int), ii_v (((Pf ++ [t]).length : Nat) : Int)]) C (m_orders4 hl g5 w b hb hvpg5 hBpg5 (by rw [rtg5]; exact hnow) n (by rw [h40g5 30 (by decide) (by decide)]; exact hn) hn30 (fun r hr => by rw [hfrg5 57 (by decide) (by decide) (by decide), hfrg5 63 (by decide) (by decide) (by decide), hfrg5 60 (by decide) (by decide) (by decide)]; exact hrid r hr) hmtg5 hS6 homg5 hPx (by simp; omega) hP64x hPqx (by simp; omega) so hsg5) co_X10_orders in_X10 ml_X10_253 im_X10_orders se_X10_orders rfl rfl ar_X10_orders ⟨by decide, by decide, by decide, by decide⟩ rfl (Nat.le_of_ble_eq_true rfl) dX10_orders_189 (a_dF ?_) a_nF
                    intro vg6 g6 hvg6
                    obtain ⟨rfl, hsg6, h8xg6, hfg6, h4g6⟩ := hvg6
                    rw [hmB, rtg5] at hsg6
                    have hfrg6 : (∀ o2, o2 ≠ 40 → (o2 < 75 ∨ 76 < o2) → (o2 < 83 ∨ 84 < o2) → g6 o2 = f o2) := fun o2 h1 h2 h3 => (hfg6 o2 h1 h2 h3).trans (hfrg5 o2 h1 h2 h3)
                    have h40g6 : (∀ i, i ≠ 37 → i ≠ 45 → g6 40 i = f 40 i) := fun i h1 h2 => (h4g6 i h1 h2).trans (h40g5 i h1 h2)
                    have h84g6 : ∀ j, j < Pf.length → g6 84 j = f 84 j := fun j h => (h8xg6 j (by simp; omega)).trans ((by rw [eg5, ii_up_k _ _ (by omega)] : g5 84 j = g 84 j).trans (h84g j h))
                    refine a_iinc (L' := [(0, .ref (ad 40)), (1, ii_v ((b : Nat) : Int)), (2, ii_v ((Pf.length : Nat) : Int)), (3, ii_v (((t : Nat) : Int) + 1))]) C dX10_orders_192 rfl (by decide) rfl ?_
                    refine a_goto (tgt := 114) C dX10_orders_195 rfl ?_
                    exact ih114 (t + 1) g6 (om_f v (mB f n b) (f 40 32) S n 4 (Pf ++ [t]) so) (by omega) (by omega) hsg6 h84g6 hfrg6 h40g6 (by rw [om_k, hE, hST]; exact if_pos ⟨h130, h139, (fun z => z.2.2 h171)⟩)
                  · skip
                    refine a_goto (tgt := 192) C dX10_orders_174 rfl ?_
                    refine a_iinc (L' := [(0, .ref (ad 40)), (1, ii_v ((b : Nat) : Int)), (2, ii_v ((Pf.length : Nat) : Int)), (3, ii_v (((t : Nat) : Int) + 1))]) C dX10_orders_192 rfl (by decide) rfl ?_
                    refine a_goto (tgt := 114) C dX10_orders_195 rfl ?_
                    exact ih114 (t + 1) g so (by omega) (by omega) hs h84g hfrg h40g (by rw [om_k, hE, hST]; exact if_neg (fun z => z.2.2 ⟨h149, h160, h171⟩))
            · skip
              refine a_goto (tgt := 192) C dX10_orders_142 rfl ?_
              refine a_iinc (L' := [(0, .ref (ad 40)), (1, ii_v ((b : Nat) : Int)), (2, ii_v ((Pf.length : Nat) : Int)), (3, ii_v (((t : Nat) : Int) + 1))]) C dX10_orders_192 rfl (by decide) rfl ?_
              refine a_goto (tgt := 114) C dX10_orders_195 rfl ?_
              exact ih114 (t + 1) g so (by omega) (by omega) hs h84g hfrg h40g (by rw [om_k, hE, hST]; exact if_neg (fun z => z.2.1 h139))
    exact loop114 (_ + 1) 0 f s0 (Nat.lt_succ_self _) (Nat.zero_le _) hs (fun _ _ => rfl) (fun _ _ _ _ => rfl) (fun _ _ _ => rfl) rfl
  · skip
    omega
set_option maxRecDepth 20000 in
set_option maxHeartbeats 2000000 in
theorem m_orders6 {l : Launch} {E : ab_E} {base : Nat} (hl : l.stackTraces = false) {ad : Nat → Nat} (f : Nat → Nat → Int) (w : Nat × Nat × Int64 × UInt64) (b : Nat) (hb : b < 4) {v : Nat → Nat → Int} (hv : pj_C f v) (hB : pk_B f b) (hnow : 0 ≤ f 40 32 ∧ f 40 32 ≤ 100000) (n : Nat) (hn : f 40 30 = (n : Int)) (hn30 : n ≤ 30) (hrid : ∀ r, r < n → (0 ≤ f 57 r ∧ f 57 r ≤ 6) ∧ st_ok (f 63 r) ∧ -1 ≤ f 60 r ∧ f 60 r ≤ 10) {S : List Nat} (hS : mt_I f b S) (hS6 : S.length ≤ 6) (hom : f 40 46 = (S.length : Int)) {Pf : List Nat} (hP : ∀ j, j < Pf.length → f 84 j = ((Pf.getD j 0 : Nat) : Int)) (hP8 : Pf.length ≤ 8) (hP64 : ∀ j, j < Pf.length → Pf.getD j 0 < 64) (hPq : ∀ j, j < Pf.length → Pf.getD j 0 / 2 ≤ 30) (hPL : Pf.length + 6 = S.length) (s0 : om_S) (hs : bs_I f S.length s0)  : ab_M l E base yX10_orders cX10_orders 5 none 13 0 0 [.ref (ad 40), ii_v ((b : Nat) : Int), ii_v ((Pf.length : Nat) : Int)] ab_x4 ad (f, w) (ab_F ad w (fun ov g => ov = none ∧ bs_I g S.length (om_f v (mB f n b) (f 40 32) S n 6 Pf s0) ∧ (∀ j, j < Pf.length → g 84 j = f 84 j) ∧ (∀ o2, o2 ≠ 40 → (o2 < 75 ∨ 76 < o2) → (o2 < 83 ∨ 84 < o2) → g o2 = f o2) ∧ (∀ i, i ≠ 37 → i ≠ 45 → g 40 i = f 40 i))) := by
  obtain ⟨Post, hPost⟩ : ∃ P : ab_P, P = (ab_F ad w (fun ov g => ov = none ∧ bs_I g S.length (om_f v (mB f n b) (f 40 32) S n 6 Pf s0) ∧ (∀ j, j < Pf.length → g 84 j = f 84 j) ∧ (∀ o2, o2 ≠ 40 → (o2 < 75 ∨ 76 < o2) → (o2 < 83 ∨ 84 < o2) → g o2 = f o2) ∧ (∀ i, i ≠ 37 → i ≠ 45 → g 40 i = f 40 i))) := ⟨_, rfl⟩
  rw [← hPost]
  refine ab_of RX10 [(0, .ref (ad 40)), (1, ii_v ((b : Nat) : Int)), (2, ii_v ((Pf.length : Nat) : Int))] hl (by decide) rfl (Nat.le_of_ble_eq_true rfl) rfl ?_
  intro p e s m args below meth c C T0 hnm
  obtain ⟨hB1, hB2, hB3, hB4, hB5, hB6⟩ := id hB
  have hPl : Pf.length + 6 = S.length := by omega
  obtain ⟨ST, hST⟩ : ∃ ST : Nat → om_S → om_S, ST = (fun t s => if t ∈ S ∧ ¬ t ∈ Pf ∧ ¬ (¬ t % 2 = 0 ∧ t - 1 ∈ S ∧ ¬ t - 1 ∈ Pf) then om_f v (mB f n b) (f 40 32) S n 5 (Pf ++ [t]) s else s) := ⟨_, rfl⟩
  refine a_iload_n C dX10_orders_0 rfl ?_
  refine a_aload_n C dX10_orders_1 rfl ?_
  refine a_get (ci := 11) (i := 46) (v := ii_v (f 40 46)) C iw_X10 rfl (by decide) rfl fl_X10_241 rfl rfl dX10_orders_2 ?_
  refine a_top (w := ii_v ((S.length : Nat) : Int)) (congrArg (fun q => ii_v q) hom) ?_
  refine a_icmp_ne (tgt := 112) C dX10_orders_5 rfl (by unfold ii_B; omega) (by unfold ii_B; omega) (fun h5 => ?_) (fun h5 => ?_)
  · skip
    refine a_iconst C dX10_orders_112 ?_
    refine a_istore_n (L' := [(0, .ref (ad 40)), (1, ii_v ((b : Nat) : Int)), (2, ii_v ((Pf.length : Nat) : Int)), (3, ii_v 0)]) C dX10_orders_113 (by decide) rfl ?_
    have loop114 : ∀ (NN114 : Nat) (t : Nat) (g : Nat → Nat → Int) (so : om_S), 2 * n - t < NN114 → (t ≤ 2 * n) → (bs_I g S.length so) → (∀ j, j < Pf.length → g 84 j = f 84 j) → ((∀ o2, o2 ≠ 40 → (o2 < 75 ∨ 76 < o2) → (o2 < 83 ∨ 84 < o2) → g o2 = f o2)) → ((∀ i, i ≠ 37 → i ≠ 45 → g 40 i = f 40 i)) → (om_k ST t s0 = so) → ab_W p l e (ab_rm 13 0 0) s m args below meth c E base 5 (ab_Q below E base Post args s 0 0) ab_x4 ad (g, w) 0 0 114 [(0, .ref (ad 40)), (1, ii_v ((b : Nat) : Int)), (2, ii_v ((Pf.length : Nat) : Int)), (3, ii_v ((t : Nat) : Int))] [] := by
      intro NN114
      induction NN114 with
      | zero => intro t g so hNN; exact absurd hNN (Nat.not_lt_zero _)
      | succ NN114 ih114 =>
        intro t g so hNN ht2 hs h84g hfrg h40g hE
        have hmtg : mt_I g b S := mt_same hS (hfrg 51 (by decide) (by decide) (by decide)) (hfrg 52 (by decide) (by decide) (by decide))
        have homg : g 40 46 = (S.length : Int) := (h40g 46 (by decide) (by decide)).trans hom
        have hPg : ∀ j, j < Pf.length → g 84 j = ((Pf.getD j 0 : Nat) : Int) := fun j h => (h84g j h).trans (hP j h)
        refine a_iload_n C dX10_orders_114 rfl ?_
        refine a_iconst C dX10_orders_115 ?_
        refine a_aload_n C dX10_orders_116 rfl ?_
        refine a_get (ci := 11) (i := 30) (v := ii_v (g 40 30)) C iw_X10 rfl (by decide) rfl fl_X10_124 rfl rfl dX10_orders_117 ?_
        refine a_top (w := ii_v ((n : Nat) : Int)) (congrArg (fun q => ii_v q) ((h40g 30 (by decide) (by decide)).trans hn)) ?_
        refine a_imul C dX10_orders_120 ?_
        refine a_icmp_ge (tgt := 198) C dX10_orders_121 rfl (by unfold ii_B; omega) (by unfold ii_B; omega) (fun h121 => ?_) (fun h121 => ?_)
        · skip
          refine a_vret C ?_ (by decide) (by decide) dX10_orders_198
          rw [hPost]
          refine ab_F_of ⟨rfl, ?_, h84g, hfrg, h40g⟩
          rw [om_f, ← hST, show 2 * n = t by omega, hE]
          exact hs
        · skip
          refine a_aload_n C dX10_orders_124 rfl ?_
          refine a_iload_n C dX10_orders_125 rfl ?_
          refine a_iload_n C dX10_orders_126 rfl ?_
          refine a_callV (o := 40) (As := [ii_v ((b : Nat) : Int), ii_v ((t : Nat) : Int)]) C (m_isOnTour hl g w b hb hmtg hS6 homg t (by omega)) co_X10_isOnTour in_X10 ml_X10_247 im_X10_isOnTour se_X10_isOnTour rfl rfl ar_X10_isOnTour ⟨by decide, by decide, by decide, by decide⟩ rfl (Nat.le_of_ble_eq_true rfl) dX10_orders_127 (a_dR ?_) a_nR
          refine a_bif_eq (tgt := 192) C dX10_orders_130 rfl (fun h130 => ?_) (fun h130 => ?_)
          · skip
            refine a_iinc (L' := [(0, .ref (ad 40)), (1, ii_v ((b : Nat) : Int)), (2, ii_v ((Pf.length : Nat) : Int)), (3, ii_v (((t : Nat) : Int) + 1))]) C dX10_orders_192 rfl (by decide) rfl ?_
            refine a_goto (tgt := 114) C dX10_orders_195 rfl ?_
            exact ih114 (t + 1) g so (by omega) (by omega) hs h84g hfrg h40g (by rw [om_k, hE, hST]; exact if_neg (fun z => h130 z.1))
          · skip
            refine a_aload_n C dX10_orders_133 rfl ?_
            refine a_iload_n C dX10_orders_134 rfl ?_
            refine a_iload_n C dX10_orders_135 rfl ?_
            refine a_callV (o := 40) (As := [ii_v ((t : Nat) : Int), ii_v ((Pf.length : Nat) : Int)]) C (m_isTaken hl g w hPg hP8 hP64 t (by omega)) co_X10_isTaken in_X10 ml_X10_250 im_X10_isTaken se_X10_isTaken rfl rfl ar_X10_isTaken ⟨by decide, by decide, by decide, by decide⟩ rfl (Nat.le_of_ble_eq_true rfl) dX10_orders_136 (a_dR ?_) a_nR
            refine a_bif_eq (tgt := 145) C dX10_orders_139 rfl (fun h139 => ?_) (fun h139 => ?_)
            · skip
              refine a_iload_n C dX10_orders_145 rfl ?_
              refine a_callS (As := [ii_v ((t : Nat) : Int)]) C (m_isDrop hl g w t (by omega)) co_X10_isDrop in_X10 ml_X10_135 sc_X10_isDrop ar_X10_isDrop ⟨by decide, by decide, by decide, by decide⟩ rfl (Nat.le_of_ble_eq_true rfl) dX10_orders_146 (a_dR ?_) a_nR
              rw [md_iff (P := t % 2 = 0)]
              refine a_bif_eq (tgt := 177) C dX10_orders_149 rfl (fun h149 => ?_) (fun h149 => ?_)
              · skip
                refine a_aload_n C dX10_orders_177 rfl ?_
                refine a_get (ci := 11) (i := 44) (v := .ref (ad 84)) C iw_X10 rfl (by decide) rfl fl_X10_111 rfl rfl dX10_orders_178 ?_
                refine a_iload_n C dX10_orders_181 rfl ?_
                refine a_iload_n C dX10_orders_182 rfl ?_
                refine a_iast (o := 84) (N := 8) Pf.length C dX10_orders_183 rfl (by omega) (by omega) (by decide) ?_
                obtain ⟨g1, eg1⟩ : ∃ F : Nat → Nat → Int, F = ii_up g 84 Pf.length ((t : Nat) : Int) := ⟨_, rfl⟩
                rw [← eg1]
                have hfrg1 : (∀ o2, o2 ≠ 40 → (o2 < 75 ∨ 76 < o2) → (o2 < 83 ∨ 84 < o2) → g1 o2 = f o2) := fun o2 h1 h2 h3 => by rw [eg1, ii_up_row _ _ (by omega)]; exact hfrg o2 h1 h2 h3
                have h40g1 : (∀ i, i ≠ 37 → i ≠ 45 → g1 40 i = f 40 i) := fun i h1 h2 => by rw [eg1, ii_up_o _ _ _ (by decide)]; exact h40g i h1 h2
                have hvpg1 : pj_C g1 v := pj_same hv (fun o2 h => hfrg1 o2 (by omega) (by omega) (by omega))
                have r41g1 : g1 41 = f 41 := hfrg1 41 (by decide) (by decide) (by decide)
                have r43g1 : g1 43 = f 43 := hfrg1 43 (by decide) (by decide) (by decide)
                have r44g1 : g1 44 = f 44 := hfrg1 44 (by decide) (by decide) (by decide)
                have r45g1 : g1 45 = f 45 := hfrg1 45 (by decide) (by decide) (by decide)
                have r46g1 : g1 46 = f 46 := hfrg1 46 (by decide) (by decide) (by decide)
                have r47g1 : g1 47 = f 47 := hfrg1 47 (by decide) (by decide) (by decide)
                have rtg1 : g1 40 32 = f 40 32 := h40g1 32 (by decide) (by decide)
                have rag1 : ab_n g1 b n = ab_n f b n := ab_same (hfrg1 57 (by decide) (by decide) (by decide)) (hfrg1 63 (by decide) (by decide) (by decide)) (hfrg1 60 (by decide) (by decide) (by decide)) b n
                have hBpg1 : pk_B g1 b := by unfold pk_B; rw [r41g1, r43g1, r44g1, r45g1, r46g1, r47g1]; exact hB
                have hmtg1 : mt_I g1 b S := mt_same hS (hfrg1 51 (by decide) (by decide) (by decide)) (hfrg1 52 (by decide) (by decide) (by decide))
                have homg1 : g1 40 46 = (S.length : Int) := (h40g1 46 (by decide) (by decide)).trans hom
                have hsg1 : bs_I g1 S.length so := bs_same hs (by rw [eg1, ii_up_o _ _ _ (by decide)]) (by rw [eg1]; exact ii_up_row _ _ (by decide))
                have hPx : ∀ j, j < (Pf ++ [t]).length → g1 84 j = (((Pf ++ [t]).getD j 0 : Nat) : Int) := fun j h => by rw [eg1]; exact tk_app hPg j h
                have hP64x : ∀ j, j < (Pf ++ [t]).length → (Pf ++ [t]).getD j 0 < 64 := tk_all (p := fun q => q < 64) hP64 (by show t < 64; omega)
                have hPqx : ∀ j, j < (Pf ++ [t]).length → (Pf ++ [t]).getD j 0 / 2 ≤ 30 := tk_all (p := fun q => q / 2 ≤ 30) hPq (by show t / 2 ≤ 30; omega)
                have hmB : mB g1 n b = mB f n b := mB_same r41g1 r43g1 r44g1 r45g1 r46g1 r47g1 rag1
                refine a_aload_n C dX10_orders_184 rfl ?_
                refine a_iload_n C dX10_orders_185 rfl ?_
                refine a_iload_n C dX10_orders_186 rfl ?_
                refine a_iconst C dX10_orders_187 ?_
                refine a_iadd C dX10_orders_188 ?_
                rw [show ((Pf.length : Nat) : Int) + 1 = (((Pf ++ [t]).length : Nat) : Int) by simp]
                refine a_callV (o := 40) (As := [ii_v ((b : Nat) : Int), ii_v (((Pf ++ [t]).length : Nat) : Int)]) C (m_orders5 hl g1 w b hb hvpg1 hBpg1 (by rw [rtg1]; exact hnow) n (by rw [h40g1 30 (by decide) (by decide)]; exact hn) hn30 (fun r hr => by rw [hfrg1 57 (by decide) (by decide) (by decide), hfrg1 63 (by decide) (by decide) (by decide), hfrg1 60 (by decide) (by decide) (by decide)]; exact hrid r hr) hmtg1 hS6 homg1 hPx (by simp; omega) hP64x hPqx (by simp; omega) so hsg1) co_X10_orders in_X10 ml_X10_253 im_X10_orders se_X10_orders rfl rfl ar_X10_orders ⟨by decide, by decide, by decide, by decide⟩ rfl (Nat.le_of_ble_eq_true rfl) dX10_orders_189 (a_dF ?_) a_nF
                intro vg2 g2 hvg2
                obtain ⟨rfl, hsg2, h8xg2, hfg2, h4g2⟩ := hvg2
                rw [hmB, rtg1] at hsg2
                have hfrg2 : (∀ o2, o2 ≠ 40 → (o2 < 75 ∨ 76 < o2) → (o2 < 83 ∨ 84 < o2) → g2 o2 = f o2) := fun o2 h1 h2 h3 => (hfg2 o2 h1 h2 h3).trans (hfrg1 o2 h1 h2 h3)
                have h40g2 : (∀ i, i ≠ 37 → i ≠ 45 → g2 40 i = f 40 i) := fun i h1 h2 => (h4g2 i h1 h2).trans (h40g1 i h1 h2)
                have h84g2 : ∀ j, j < Pf.length → g2 84 j = f 84 j := fun j h => (h8xg2 j (by simp; omega)).trans ((by rw [eg1, ii_up_k _ _ (by omega)] : g1 84 j = g 84 j).trans (h84g j h))
                refine a_iinc (L' := [(0, .ref (ad 40)), (1, ii_v ((b : Nat) : Int)), (2, ii_v ((Pf.length : Nat) : Int)), (3, ii_v (((t : Nat) : Int) + 1))]) C dX10_orders_192 rfl (by decide) rfl ?_
                refine a_goto (tgt := 114) C dX10_orders_195 rfl ?_
                exact ih114 (t + 1) g2 (om_f v (mB f n b) (f 40 32) S n 5 (Pf ++ [t]) so) (by omega) (by omega) hsg2 h84g2 hfrg2 h40g2 (by rw [om_k, hE, hST]; exact if_pos ⟨h130, h139, (fun z => h149 z.1)⟩)
              · skip
                refine a_aload_n C dX10_orders_152 rfl ?_
                refine a_iload_n C dX10_orders_153 rfl ?_
                refine a_iload_n C dX10_orders_154 rfl ?_
                refine a_iconst C dX10_orders_155 ?_
                refine a_isub C dX10_orders_156 ?_
                rw [show ((t : Nat) : Int) - 1 = ((t - 1 : Nat) : Int) by omega]
                refine a_callV (o := 40) (As := [ii_v ((b : Nat) : Int), ii_v (((t - 1) : Nat) : Int)]) C (m_isOnTour hl g w b hb hmtg hS6 homg (t - 1) (by omega)) co_X10_isOnTour in_X10 ml_X10_247 im_X10_isOnTour se_X10_isOnTour rfl rfl ar_X10_isOnTour ⟨by decide, by decide, by decide, by decide⟩ rfl (Nat.le_of_ble_eq_true rfl) dX10_orders_157 (a_dR ?_) a_nR
                refine a_bif_eq (tgt := 177) C dX10_orders_160 rfl (fun h160 => ?_) (fun h160 => ?_)
                · skip
                  refine a_aload_n C dX10_orders_177 rfl ?_
                  refine a_get (ci := 11) (i := 44) (v := .ref (ad 84)) C iw_X10 rfl (by decide) rfl fl_X10_111 rfl rfl dX10_orders_178 ?_
                  refine a_iload_n C dX10_orders_181 rfl ?_
                  refine a_iload_n C dX10_orders_182 rfl ?_
                  refine a_iast (o := 84) (N := 8) Pf.length C dX10_orders_183 rfl (by omega) (by omega) (by decide) ?_
                  obtain ⟨g3, eg3⟩ : ∃ F : Nat → Nat → Int, F = ii_up g 84 Pf.length ((t : Nat) : Int) := ⟨_, rfl⟩
                  rw [← eg3]
                  have hfrg3 : (∀ o2, o2 ≠ 40 → (o2 < 75 ∨ 76 < o2) → (o2 < 83 ∨ 84 < o2) → g3 o2 = f o2) := fun o2 h1 h2 h3 => by rw [eg3, ii_up_row _ _ (by omega)]; exact hfrg o2 h1 h2 h3
                  have h40g3 : (∀ i, i ≠ 37 → i ≠ 45 → g3 40 i = f 40 i) := fun i h1 h2 => by rw [eg3, ii_up_o _ _ _ (by decide)]; exact h40g i h1 h2
                  have hvpg3 : pj_C g3 v := pj_same hv (fun o2 h => hfrg3 o2 (by omega) (by omega) (by omega))
                  have r41g3 : g3 41 = f 41 := hfrg3 41 (by decide) (by decide) (by decide)
                  have r43g3 : g3 43 = f 43 := hfrg3 43 (by decide) (by decide) (by decide)
                  have r44g3 : g3 44 = f 44 := hfrg3 44 (by decide) (by decide) (by decide)
                  have r45g3 : g3 45 = f 45 := hfrg3 45 (by decide) (by decide) (by decide)
                  have r46g3 : g3 46 = f 46 := hfrg3 46 (by decide) (by decide) (by decide)
                  have r47g3 : g3 47 = f 47 := hfrg3 47 (by decide) (by decide) (by decide)
                  have rtg3 : g3 40 32 = f 40 32 := h40g3 32 (by decide) (by decide)
                  have rag3 : ab_n g3 b n = ab_n f b n := ab_same (hfrg3 57 (by decide) (by decide) (by decide)) (hfrg3 63 (by decide) (by decide) (by decide)) (hfrg3 60 (by decide) (by decide) (by decide)) b n
                  have hBpg3 : pk_B g3 b := by unfold pk_B; rw [r41g3, r43g3, r44g3, r45g3, r46g3, r47g3]; exact hB
                  have hmtg3 : mt_I g3 b S := mt_same hS (hfrg3 51 (by decide) (by decide) (by decide)) (hfrg3 52 (by decide) (by decide) (by decide))
                  have homg3 : g3 40 46 = (S.length : Int) := (h40g3 46 (by decide) (by decide)).trans hom
                  have hsg3 : bs_I g3 S.length so := bs_same hs (by rw [eg3, ii_up_o _ _ _ (by decide)]) (by rw [eg3]; exact ii_up_row _ _ (by decide))
                  have hPx : ∀ j, j < (Pf ++ [t]).length → g3 84 j = (((Pf ++ [t]).getD j 0 : Nat) : Int) := fun j h => by rw [eg3]; exact tk_app hPg j h
                  have hP64x : ∀ j, j < (Pf ++ [t]).length → (Pf ++ [t]).getD j 0 < 64 := tk_all (p := fun q => q < 64) hP64 (by show t < 64; omega)
                  have hPqx : ∀ j, j < (Pf ++ [t]).length → (Pf ++ [t]).getD j 0 / 2 ≤ 30 := tk_all (p := fun q => q / 2 ≤ 30) hPq (by show t / 2 ≤ 30; omega)
                  have hmB : mB g3 n b = mB f n b := mB_same r41g3 r43g3 r44g3 r45g3 r46g3 r47g3 rag3
                  refine a_aload_n C dX10_orders_184 rfl ?_
                  refine a_iload_n C dX10_orders_185 rfl ?_
                  refine a_iload_n C dX10_orders_186 rfl ?_
                  refine a_iconst C dX10_orders_187 ?_
                  refine a_iadd C dX10_orders_188 ?_
                  rw [show ((Pf.length : Nat) : Int) + 1 = (((Pf ++ [t]).length : Nat) : Int) by simp]
                  refine a_callV (o := 40) (As := [ii_v ((b : Nat) : Int), ii_v (((Pf ++ [t]).length : Nat) : Int)]) C (m_orders5 hl g3 w b hb hvpg3 hBpg3 (by rw [rtg3]; exact hnow) n (by rw [h40g3 30 (by decide) (by decide)]; exact hn) hn30 (fun r hr => by rw [hfrg3 57 (by decide) (by decide) (by decide), hfrg3 63 (by decide) (by decide) (by decide), hfrg3 60 (by decide) (by decide) (by decide)]; exact hrid r hr) hmtg3 hS6 homg3 hPx (by simp; omega) hP64x hPqx (by simp; omega) so hsg3) co_X10_orders in_X10 ml_X10_253 im_X10_orders se_X10_orders rfl rfl ar_X10_orders ⟨by decide, by decide, by decide, by decide⟩ rfl (Nat.le_of_ble_eq_true rfl) dX10_orders_189 (a_dF ?_) a_nF
                  intro vg4 g4 hvg4
                  obtain ⟨rfl, hsg4, h8xg4, hfg4, h4g4⟩ := hvg4
                  rw [hmB, rtg3] at hsg4
                  have hfrg4 : (∀ o2, o2 ≠ 40 → (o2 < 75 ∨ 76 < o2) → (o2 < 83 ∨ 84 < o2) → g4 o2 = f o2) := fun o2 h1 h2 h3 => (hfg4 o2 h1 h2 h3).trans (hfrg3 o2 h1 h2 h3)
                  have h40g4 : (∀ i, i ≠ 37 → i ≠ 45 → g4 40 i = f 40 i) := fun i h1 h2 => (h4g4 i h1 h2).trans (h40g3 i h1 h2)
                  have h84g4 : ∀ j, j < Pf.length → g4 84 j = f 84 j := fun j h => (h8xg4 j (by simp; omega)).trans ((by rw [eg3, ii_up_k _ _ (by omega)] : g3 84 j = g 84 j).trans (h84g j h))
                  refine a_iinc (L' := [(0, .ref (ad 40)), (1, ii_v ((b : Nat) : Int)), (2, ii_v ((Pf.length : Nat) : Int)), (3, ii_v (((t : Nat) : Int) + 1))]) C dX10_orders_192 rfl (by decide) rfl ?_
                  refine a_goto (tgt := 114) C dX10_orders_195 rfl ?_
                  exact ih114 (t + 1) g4 (om_f v (mB f n b) (f 40 32) S n 5 (Pf ++ [t]) so) (by omega) (by omega) hsg4 h84g4 hfrg4 h40g4 (by rw [om_k, hE, hST]; exact if_pos ⟨h130, h139, (fun z => h160 z.2.1)⟩)
                · skip
                  refine a_aload_n C dX10_orders_163 rfl ?_
                  refine a_iload_n C dX10_orders_164 rfl ?_
                  refine a_iconst C dX10_orders_165 ?_
                  refine a_isub C dX10_orders_166 ?_
                  rw [show ((t : Nat) : Int) - 1 = ((t - 1 : Nat) : Int) by omega]
                  refine a_iload_n C dX10_orders_167 rfl ?_
                  refine a_callV (o := 40) (As := [ii_v (((t - 1) : Nat) : Int), ii_v ((Pf.length : Nat) : Int)]) C (m_isTaken hl g w hPg hP8 hP64 (t - 1) (by omega)) co_X10_isTaken in_X10 ml_X10_250 im_X10_isTaken se_X10_isTaken rfl rfl ar_X10_isTaken ⟨by decide, by decide, by decide, by decide⟩ rfl (Nat.le_of_ble_eq_true rfl) dX10_orders_168 (a_dR ?_) a_nR
                  refine a_bif_ne (tgt := 177) C dX10_orders_171 rfl (fun h171 => ?_) (fun h171 => ?_)
                  · skip
                    refine a_aload_n C dX10_orders_177 rfl ?_
                    refine a_get (ci := 11) (i := 44) (v := .ref (ad 84)) C iw_X10 rfl (by decide) rfl fl_X10_111 rfl rfl dX10_orders_178 ?_
                    refine a_iload_n C dX10_orders_181 rfl ?_
                    refine a_iload_n C dX10_orders_182 rfl ?_
                    refine a_iast (o := 84) (N := 8) Pf.length C dX10_orders_183 rfl (by omega) (by omega) (by decide) ?_
                    obtain ⟨g5, eg5⟩ : ∃ F : Nat → Nat → Int, F = ii_up g 84 Pf.length ((t : Nat) : Int) := ⟨_, rfl⟩
                    rw [← eg5]
                    have hfrg5 : (∀ o2, o2 ≠ 40 → (o2 < 75 ∨ 76 < o2) → (o2 < 83 ∨ 84 < o2) → g5 o2 = f o2) := fun o2 h1 h2 h3 => by rw [eg5, ii_up_row _ _ (by omega)]; exact hfrg o2 h1 h2 h3
                    have h40g5 : (∀ i, i ≠ 37 → i ≠ 45 → g5 40 i = f 40 i) := fun i h1 h2 => by rw [eg5, ii_up_o _ _ _ (by decide)]; exact h40g i h1 h2
                    have hvpg5 : pj_C g5 v := pj_same hv (fun o2 h => hfrg5 o2 (by omega) (by omega) (by omega))
                    have r41g5 : g5 41 = f 41 := hfrg5 41 (by decide) (by decide) (by decide)
                    have r43g5 : g5 43 = f 43 := hfrg5 43 (by decide) (by decide) (by decide)
                    have r44g5 : g5 44 = f 44 := hfrg5 44 (by decide) (by decide) (by decide)
                    have r45g5 : g5 45 = f 45 := hfrg5 45 (by decide) (by decide) (by decide)
                    have r46g5 : g5 46 = f 46 := hfrg5 46 (by decide) (by decide) (by decide)
                    have r47g5 : g5 47 = f 47 := hfrg5 47 (by decide) (by decide) (by decide)
                    have rtg5 : g5 40 32 = f 40 32 := h40g5 32 (by decide) (by decide)
                    have rag5 : ab_n g5 b n = ab_n f b n := ab_same (hfrg5 57 (by decide) (by decide) (by decide)) (hfrg5 63 (by decide) (by decide) (by decide)) (hfrg5 60 (by decide) (by decide) (by decide)) b n
                    have hBpg5 : pk_B g5 b := by unfold pk_B; rw [r41g5, r43g5, r44g5, r45g5, r46g5, r47g5]; exact hB
                    have hmtg5 : mt_I g5 b S := mt_same hS (hfrg5 51 (by decide) (by decide) (by decide)) (hfrg5 52 (by decide) (by decide) (by decide))
                    have homg5 : g5 40 46 = (S.length : Int) := (h40g5 46 (by decide) (by decide)).trans hom
                    have hsg5 : bs_I g5 S.length so := bs_same hs (by rw [eg5, ii_up_o _ _ _ (by decide)]) (by rw [eg5]; exact ii_up_row _ _ (by decide))
                    have hPx : ∀ j, j < (Pf ++ [t]).length → g5 84 j = (((Pf ++ [t]).getD j 0 : Nat) : Int) := fun j h => by rw [eg5]; exact tk_app hPg j h
                    have hP64x : ∀ j, j < (Pf ++ [t]).length → (Pf ++ [t]).getD j 0 < 64 := tk_all (p := fun q => q < 64) hP64 (by show t < 64; omega)
                    have hPqx : ∀ j, j < (Pf ++ [t]).length → (Pf ++ [t]).getD j 0 / 2 ≤ 30 := tk_all (p := fun q => q / 2 ≤ 30) hPq (by show t / 2 ≤ 30; omega)
                    have hmB : mB g5 n b = mB f n b := mB_same r41g5 r43g5 r44g5 r45g5 r46g5 r47g5 rag5
                    refine a_aload_n C dX10_orders_184 rfl ?_
                    refine a_iload_n C dX10_orders_185 rfl ?_
                    refine a_iload_n C dX10_orders_186 rfl ?_
                    refine a_iconst C dX10_orders_187 ?_
                    refine a_iadd C dX10_orders_188 ?_
                    rw [show ((Pf.length : Nat) : Int) + 1 = (((Pf ++ [t]).length : Nat) : Int) by simp]
                    refine a_callV (o := 40) (As := [ii_v ((b : Nat) : Int), ii_v (((Pf ++ [t]).length : Nat) : Int)]) C (m_orders5 hl g5 w b hb hvpg5 hBpg5 (by rw [rtg5]; exact hnow) n (by rw [h40g5 30 (by decide) (by decide)]; exact hn) hn30 (fun r hr => by rw [hfrg5 57 (by decide) (by decide) (by decide), hfrg5 63 (by decide) (by decide) (by decide), hfrg5 60 (by decide) (by decide) (by decide)]; exact hrid r hr) hmtg5 hS6 homg5 hPx (by simp; omega) hP64x hPqx (by simp; omega) so hsg5) co_X10_orders in_X10 ml_X10_253 im_X10_orders se_X10_orders rfl rfl ar_X10_orders ⟨by decide, by decide, by decide, by decide⟩ rfl (Nat.le_of_ble_eq_true rfl) dX10_orders_189 (a_dF ?_) a_nF
                    intro vg6 g6 hvg6
                    obtain ⟨rfl, hsg6, h8xg6, hfg6, h4g6⟩ := hvg6
                    rw [hmB, rtg5] at hsg6
                    have hfrg6 : (∀ o2, o2 ≠ 40 → (o2 < 75 ∨ 76 < o2) → (o2 < 83 ∨ 84 < o2) → g6 o2 = f o2) := fun o2 h1 h2 h3 => (hfg6 o2 h1 h2 h3).trans (hfrg5 o2 h1 h2 h3)
                    have h40g6 : (∀ i, i ≠ 37 → i ≠ 45 → g6 40 i = f 40 i) := fun i h1 h2 => (h4g6 i h1 h2).trans (h40g5 i h1 h2)
                    have h84g6 : ∀ j, j < Pf.length → g6 84 j = f 84 j := fun j h => (h8xg6 j (by simp; omega)).trans ((by rw [eg5, ii_up_k _ _ (by omega)] : g5 84 j = g 84 j).trans (h84g j h))
                    refine a_iinc (L' := [(0, .ref (ad 40)), (1, ii_v ((b : Nat) : Int)), (2, ii_v ((Pf.length : Nat) : Int)), (3, ii_v (((t : Nat) : Int) + 1))]) C dX10_orders_192 rfl (by decide) rfl ?_
                    refine a_goto (tgt := 114) C dX10_orders_195 rfl ?_
                    exact ih114 (t + 1) g6 (om_f v (mB f n b) (f 40 32) S n 5 (Pf ++ [t]) so) (by omega) (by omega) hsg6 h84g6 hfrg6 h40g6 (by rw [om_k, hE, hST]; exact if_pos ⟨h130, h139, (fun z => z.2.2 h171)⟩)
                  · skip
                    refine a_goto (tgt := 192) C dX10_orders_174 rfl ?_
                    refine a_iinc (L' := [(0, .ref (ad 40)), (1, ii_v ((b : Nat) : Int)), (2, ii_v ((Pf.length : Nat) : Int)), (3, ii_v (((t : Nat) : Int) + 1))]) C dX10_orders_192 rfl (by decide) rfl ?_
                    refine a_goto (tgt := 114) C dX10_orders_195 rfl ?_
                    exact ih114 (t + 1) g so (by omega) (by omega) hs h84g hfrg h40g (by rw [om_k, hE, hST]; exact if_neg (fun z => z.2.2 ⟨h149, h160, h171⟩))
            · skip
              refine a_goto (tgt := 192) C dX10_orders_142 rfl ?_
              refine a_iinc (L' := [(0, .ref (ad 40)), (1, ii_v ((b : Nat) : Int)), (2, ii_v ((Pf.length : Nat) : Int)), (3, ii_v (((t : Nat) : Int) + 1))]) C dX10_orders_192 rfl (by decide) rfl ?_
              refine a_goto (tgt := 114) C dX10_orders_195 rfl ?_
              exact ih114 (t + 1) g so (by omega) (by omega) hs h84g hfrg h40g (by rw [om_k, hE, hST]; exact if_neg (fun z => z.2.1 h139))
    exact loop114 (_ + 1) 0 f s0 (Nat.lt_succ_self _) (Nat.zero_le _) hs (fun _ _ => rfl) (fun _ _ _ _ => rfl) (fun _ _ _ => rfl) rfl
  · skip
    omega
