/-! The model: cancel, improve, addBus. -/
/-- the model's numbers are those of f, but for what is thrown, for the tours and for its scratch -/
def me_E (g f : Nat → Nat → Int) : Prop := (∀ o, o ≠ 40 → (o < 51 ∨ 52 < o) → (o < 75 ∨ 76 < o) → (o < 83 ∨ 84 < o) → g o = f o) ∧ ∀ i, i < 37 → i ≠ 0 → g 40 i = f 40 i
theorem me_mm {f g : Nat → Nat → Int} {b q : Nat} (h : me_E g f) : me_E (mm_T g b q) (mm_T f b q) := by
  have h31 := h.2 31 (by decide) (by decide)
  have h32 := h.2 32 (by decide) (by decide)
  have h48 := h.1 48 (by decide) (by decide) (by decide) (by decide)
  refine ⟨fun o h1 h2 h3 h4 => ?_, fun i h1 h2 => ?_⟩
  · have ho := h.1 o h1 h2 h3 h4
    unfold mm_T
    rw [h31, h32, h48]
    rw [ii_up_row _ _ h1, ii_up_row _ _ h1]
    refine up_cong (up_cong (up_cong (up_cong ?_)))
    split
    · exact up_cong (up_cong ho)
    · exact up_cong (up_cong ho)
  · by_cases hi : i = 31
    · rw [hi, mm_31, mm_31, h31]
    · rw [mm_40 hi, mm_40 hi]
      exact h.2 i h1 h2
theorem me_D {b : Nat} : ∀ (S : List Nat) {f g : Nat → Nat → Int} (_ : me_E g f), me_E (mm_D g b S) (mm_D f b S)
  | [], _, _, h => h
  | q :: S, _, _, h => me_D S (me_mm h)
theorem mm_D0 {b i : Nat} (hi : i ≠ 31) : ∀ {S : List Nat} {f : Nat → Nat → Int}, mm_D f b S 40 i = f 40 i
  | [], _ => rfl
  | q :: S, f => (mm_D0 hi (S := S) (f := mm_T f b q)).trans (mm_40 hi)
theorem me_end {f0 f G g : Nat → Nat → Int} {b : Nat} {S : List Nat} (hr : ∀ o, o ≠ 40 → o ≠ 51 → o ≠ 52 → G o = f0 o) (h4 : ∀ i, i < 37 → i ≠ 0 → G 40 i = f 40 i) (hm : ∀ o2, o2 ≠ 51 → o2 ≠ 52 → g o2 = mm_D G b S o2) (h40 : ∀ i, i < 37 → i ≠ 0 → f0 40 i = f 40 i := by (intro i _ _; rfl)) : me_E g (mm_D f0 b S) := by
  have h1 : me_E (mm_D G b S) (mm_D f0 b S) := me_D S ⟨fun o h1 h2 h3 h4 => hr o h1 (by omega) (by omega), fun i h1 h2 => (h4 i h1 h2).trans (h40 i h1 h2).symm⟩
  exact ⟨fun o a1 a2 a3 a4 => (hm o (by omega) (by omega)).trans (h1.1 o a1 a2 a3 a4), fun i a1 a2 => (congrFun (hm 40 (by decide) (by decide)) i).trans (h1.2 i a1 a2)⟩
theorem me_end2 {f G g : Nat → Nat → Int} {b : Nat} {S : List Nat} (hr : ∀ o, o ≠ 40 → (o < 51 ∨ 52 < o) → (o < 75 ∨ 76 < o) → (o < 83 ∨ 84 < o) → G o = f o) (h4 : ∀ i, i < 37 → i ≠ 0 → G 40 i = f 40 i) (hm : ∀ o2, o2 ≠ 51 → o2 ≠ 52 → g o2 = mm_D G b S o2) : me_E g (mm_D f b S) := by
  have h1 : me_E (mm_D G b S) (mm_D f b S) := me_D S ⟨hr, h4⟩
  exact ⟨fun o a1 a2 a3 a4 => (hm o (by omega) (by omega)).trans (h1.1 o a1 a2 a3 a4), fun i a1 a2 => (congrFun (hm 40 (by decide) (by decide)) i).trans (h1.2 i a1 a2)⟩
theorem fl_step {S : List Nat} {k : Nat} {p : Nat → Bool} (hk : k < S.length) : (S.take (k + 1)).filter p = (S.take k).filter p ++ (if p (S.getD k 0) = true then [S.getD k 0] else []) := by
  rw [List.take_add_one, List.filter_append, List.getElem?_eq_getElem hk, gd_eq (d := 0) hk]
  show _ ++ List.filter p [S[k]] = _
  rw [List.filter_cons, List.filter_nil]
theorem cn_app {h : Nat → Int} {o : Nat} {T : List Nat} {q : Nat} (h1 : ∀ j, j < T.length → h (o + j) = ((T.getD j 0 : Nat) : Int)) (h2 : h (o + T.length) = (q : Int)) : ∀ j, j < (T ++ [q]).length → h (o + j) = (((T ++ [q]).getD j 0 : Nat) : Int) := by
  intro j hj
  rw [List.length_append, List.length_singleton] at hj
  by_cases hl : j < T.length
  · rw [gd_app_l hl]
    exact h1 j hl
  · have he : j = T.length := by omega
    rw [he, gd_app_r (Nat.le_refl _), h2, Nat.sub_self]
    rfl
set_option maxRecDepth 20000 in
set_option maxHeartbeats 2000000 in
theorem m_cancel {l : Launch} {E : ab_E} {base : Nat} (hl : l.stackTraces = false) {ad : Nat → Nat} (f : Nat → Nat → Int) (w : Nat × Nat × Int64 × UInt64) (r : Nat) (hr : (r : Int) < f 40 30) (hm : 0 ≤ f 40 30 ∧ f 40 30 ≤ 30) (hst : f 63 r = 119) (b : Nat) (hb : b < 4) (hbo : f 60 r = (b : Int)) {v : Nat → Nat → Int} (hv : pj_C f v) (hB : pk_B f b) {S : List Nat} (hS : mt_I f b S) (hS6 : S.length ≤ 6) (hq : ∀ j, j < S.length → S.getD j 0 / 2 ≤ 30) (hnow : 0 ≤ f 40 32 ∧ f 40 32 ≤ 100000) (e0 : Nat) (he : f 40 31 = (e0 : Int)) (h60 : e0 + S.length ≤ 60)  : ab_M l E base yX10_cancel cX10_cancel 6 (some .int) 4 0 0 [.ref (ad 40), ii_v ((r : Nat) : Int)] ab_x4 ad (f, w) (ab_F ad w (fun ov g => ov = some (ii_v ((b : Nat))) ∧ g 40 0 = 0 ∧ me_E g (mm_D (ii_up f 63 r 99) b ((S.filter (fun q => decide (q / 2 ≠ r))).take (du_n v (f 44 b) (f 45 b) (S.filter (fun q => decide (q / 2 ≠ r)))))) ∧ mt_I g b ((S.filter (fun q => decide (q / 2 ≠ r))).drop (du_n v (f 44 b) (f 45 b) (S.filter (fun q => decide (q / 2 ≠ r))))) ∧ (∀ i, i ≠ b → g 51 i = f 51 i) ∧ (∀ i, i < 8 * b ∨ 8 * b + 8 ≤ i → g 52 i = f 52 i))) := by
  obtain ⟨Post, hPost⟩ : ∃ P : ab_P, P = (ab_F ad w (fun ov g => ov = some (ii_v ((b : Nat))) ∧ g 40 0 = 0 ∧ me_E g (mm_D (ii_up f 63 r 99) b ((S.filter (fun q => decide (q / 2 ≠ r))).take (du_n v (f 44 b) (f 45 b) (S.filter (fun q => decide (q / 2 ≠ r)))))) ∧ mt_I g b ((S.filter (fun q => decide (q / 2 ≠ r))).drop (du_n v (f 44 b) (f 45 b) (S.filter (fun q => decide (q / 2 ≠ r))))) ∧ (∀ i, i ≠ b → g 51 i = f 51 i) ∧ (∀ i, i < 8 * b ∨ 8 * b + 8 ≤ i → g 52 i = f 52 i))) := ⟨_, rfl⟩
  rw [← hPost]
  refine ab_of RX10 [(0, .ref (ad 40)), (1, ii_v ((r : Nat) : Int))] hl (by decide) rfl (Nat.le_of_ble_eq_true rfl) rfl ?_
  intro p e s m args below meth c C T0 hnm
  have hb4 : b < 4 := hb
  have hr30 : r < 30 := by omega
  obtain ⟨hc, h8, hj8, hb64⟩ := id hS
  refine a_aload_n C dX10_cancel_0 rfl ?_
  refine a_iconst C dX10_cancel_1 ?_
  refine a_put (ci := 11) (i := 0) C iw_X10 rfl (by decide) rfl tyX10 tyX10_ok nmX10 rfl rfl fl_X10_114 rfl rfl rfl rfl dX10_cancel_2 ?_
  obtain ⟨g1, eg1⟩ : ∃ F : Nat → Nat → Int, F = ii_up f 40 0 0 := ⟨_, rfl⟩
  rw [← eg1]
  refine a_aload_n C dX10_cancel_5 rfl ?_
  refine a_iload_n C dX10_cancel_6 rfl ?_
  refine a_callV (o := 40) (As := [ii_v ((r : Nat) : Int)]) C (m_isRequest hl g1 w ((r : Nat) : Int) (by omega) (by rw [show g1 40 30 = f 40 30 from by rw [eg1]; exact ii_up_k _ _ (by decide)]; omega)) co_X10_isRequest in_X10 ml_X10_229 im_X10_isRequest se_X10_isRequest rfl rfl ar_X10_isRequest ⟨by decide, by decide, by decide, by decide⟩ rfl (Nat.le_of_ble_eq_true rfl) dX10_cancel_7 (a_dR ?_) a_nR
  rw [show g1 40 30 = f 40 30 from by rw [eg1]; exact ii_up_k _ _ (by decide)]
  refine a_bif_ne (tgt := 19) C dX10_cancel_10 rfl (fun h10 => ?_) (fun h10 => ?_)
  · skip
    refine a_aload_n C dX10_cancel_19 rfl ?_
    refine a_get (ci := 11) (i := 23) (v := .ref (ad 63)) C iw_X10 rfl (by decide) rfl fl_X10_76 rfl rfl dX10_cancel_20 ?_
    refine a_iload_n C dX10_cancel_23 rfl ?_
    refine a_cald (o := 63) (N := 31) r C dX10_cancel_24 rfl (by omega) (by omega) (by decide) ?_
    refine a_top (w := ii_v (g1 63 r)) rfl ?_
    refine a_top (w := ii_v (f 63 r)) (congrArg (fun q => ii_v q) (show g1 63 r = (f 63 r) by rw [eg1, ii_up_o _ _ _ (by omega)])) ?_
    refine a_bipush C dX10_cancel_25 (by decide) ?_
    refine a_icmp_eq (tgt := 36) C dX10_cancel_27 rfl (by unfold ii_B; omega) (by unfold ii_B; omega) (fun h27 => ?_) (fun h27 => ?_)
    · skip
      refine a_aload_n C dX10_cancel_36 rfl ?_
      refine a_get (ci := 11) (i := 20) (v := .ref (ad 60)) C iw_X10 rfl (by decide) rfl fl_X10_67 rfl rfl dX10_cancel_37 ?_
      refine a_iload_n C dX10_cancel_40 rfl ?_
      refine a_iald (o := 60) (N := 31) r C dX10_cancel_41 rfl (by omega) (by omega) (by decide) ?_
      refine a_top (w := ii_v (g1 60 r)) rfl ?_
      refine a_top (w := ii_v (f 60 r)) (congrArg (fun q => ii_v q) (show g1 60 r = (f 60 r) by rw [eg1, ii_up_o _ _ _ (by omega)])) ?_
      refine a_top (w := ii_v ((b : Nat) : Int)) (congrArg (fun q => ii_v q) hbo) ?_
      refine a_istore_n (L' := [(0, .ref (ad 40)), (1, ii_v ((r : Nat) : Int)), (2, ii_v ((b : Nat) : Int))]) C dX10_cancel_42 (by decide) rfl ?_
      refine a_aload_n C dX10_cancel_43 rfl ?_
      refine a_get (ci := 11) (i := 23) (v := .ref (ad 63)) C iw_X10 rfl (by decide) rfl fl_X10_76 rfl rfl dX10_cancel_44 ?_
      refine a_iload_n C dX10_cancel_47 rfl ?_
      refine a_bipush C dX10_cancel_48 (by decide) ?_
      refine a_cast (o := 63) (N := 31) r C dX10_cancel_50 rfl (by omega) (by omega) (by decide) (by decide) ?_
      obtain ⟨g2, eg2⟩ : ∃ F : Nat → Nat → Int, F = ii_up g1 63 r 99 := ⟨_, rfl⟩
      rw [← eg2]
      refine a_iconst C dX10_cancel_51 ?_
      refine a_istore_n (L' := [(0, .ref (ad 40)), (1, ii_v ((r : Nat) : Int)), (2, ii_v ((b : Nat) : Int)), (3, ii_v 0)]) C dX10_cancel_52 (by decide) rfl ?_
      refine a_iconst C dX10_cancel_53 ?_
      refine a_istore (L' := [(0, .ref (ad 40)), (1, ii_v ((r : Nat) : Int)), (2, ii_v ((b : Nat) : Int)), (3, ii_v 0), (4, ii_v 0)]) C dX10_cancel_54 (by decide) rfl ?_
      have loop56 : ∀ (NN56 : Nat) (k : Nat) (g3 : Nat → Nat → Int), S.length - k < NN56 → (k ≤ S.length) → (∀ o, o ≠ 52 → g3 o = ii_up (ii_up f 40 0 0) 63 r 99 o) → (∀ j, j < ((S.take k).filter (fun q => decide (q / 2 ≠ r))).length → g3 52 (8 * b + j) = ((((S.take k).filter (fun q => decide (q / 2 ≠ r))).getD j 0 : Nat) : Int)) → (∀ j, k ≤ j → j < S.length → g3 52 (8 * b + j) = ((S.getD j 0 : Nat) : Int)) → (∀ i, i < 8 * b ∨ 8 * b + 8 ≤ i → g3 52 i = f 52 i) → ab_W p l e (ab_rm 4 0 0) s m args below meth c E base 6 (ab_Q below E base Post args s 0 0) ab_x4 ad (g3, w) 0 0 56 [(0, .ref (ad 40)), (1, ii_v ((r : Nat) : Int)), (2, ii_v ((b : Nat) : Int)), (3, ii_v ((((S.take k).filter (fun q => decide (q / 2 ≠ r))).length : Nat) : Int)), (4, ii_v ((k : Nat) : Int))] [] := by
        intro NN56
        induction NN56 with
        | zero => intro k g3 hNN; exact absurd hNN (Nat.not_lt_zero _)
        | succ NN56 ih56 =>
          intro k g3 hNN hk hg3 hkept hrest hoth
          refine a_iload C dX10_cancel_56 rfl ?_
          refine a_aload_n C dX10_cancel_58 rfl ?_
          refine a_get (ci := 11) (i := 11) (v := .ref (ad 51)) C iw_X10 rfl (by decide) rfl fl_X10_40 rfl rfl dX10_cancel_59 ?_
          refine a_iload_n C dX10_cancel_62 rfl ?_
          refine a_iald (o := 51) (N := 4) b C dX10_cancel_63 rfl (by omega) (by omega) (by decide) ?_
          refine a_top (w := ii_v (g3 51 b)) rfl ?_
          refine a_top (w := ii_v ((S.length : Nat) : Int)) (congrArg (fun q => ii_v q) ((congrFun (hg3 51 (by decide)) b).trans hc)) ?_
          refine a_icmp_ge (tgt := 114) C dX10_cancel_64 rfl (by unfold ii_B; omega) (by unfold ii_B; omega) (fun h64 => ?_) (fun h64 => ?_)
          · skip
            refine a_aload_n C dX10_cancel_114 rfl ?_
            refine a_get (ci := 11) (i := 11) (v := .ref (ad 51)) C iw_X10 rfl (by decide) rfl fl_X10_40 rfl rfl dX10_cancel_115 ?_
            refine a_iload_n C dX10_cancel_118 rfl ?_
            refine a_iload_n C dX10_cancel_119 rfl ?_
            refine a_iast (o := 51) (N := 4) b C dX10_cancel_120 rfl (by omega) (by omega) (by decide) ?_
            obtain ⟨g3, eg3⟩ : ∃ F : Nat → Nat → Int, F = ii_up g3 51 b ((((S.take k).filter (fun q => decide (q / 2 ≠ r))).length : Nat) : Int) := ⟨_, rfl⟩
            rw [← eg3]
            have hkS : k = S.length := by omega
            have hTS : (S.take k).filter (fun q => decide (q / 2 ≠ r)) = (S.filter (fun q => decide (q / 2 ≠ r))) := by rw [hkS, List.take_length]
            rw [hTS] at eg3 hkept
            have hrg3 : ∀ o, o ≠ 40 → o ≠ 51 → o ≠ 52 → g3 o = ii_up f 63 r 99 o := fun o h1 h2 h3 => by rw [eg3, ii_up_row _ _ h2, hg3 o h3]; exact up_cong (ii_up_row _ _ h1)
            have h4g3 : ∀ i, i < 37 → i ≠ 0 → g3 40 i = f 40 i := fun i _ h2 => by rw [eg3, ii_up_o _ _ _ (by decide), hg3 40 (by decide), ii_up_o _ _ _ (by decide), ii_up_k _ _ h2]
            have h0g3 : g3 40 0 = 0 := by rw [eg3, ii_up_o _ _ _ (by decide), hg3 40 (by decide), ii_up_o _ _ _ (by decide), ii_up_s]
            have hvg3 : pj_C g3 v := pj_same hv (fun o2 h => by rw [hrg3 o2 (by omega) (by omega) (by omega), ii_up_row _ _ (by omega)])
            have hr41g3 : g3 41 = f 41 := (hrg3 41 (by decide) (by decide) (by decide)).trans (ii_up_row _ _ (by decide))
            have hr43g3 : g3 43 = f 43 := (hrg3 43 (by decide) (by decide) (by decide)).trans (ii_up_row _ _ (by decide))
            have hr44g3 : g3 44 = f 44 := (hrg3 44 (by decide) (by decide) (by decide)).trans (ii_up_row _ _ (by decide))
            have hr45g3 : g3 45 = f 45 := (hrg3 45 (by decide) (by decide) (by decide)).trans (ii_up_row _ _ (by decide))
            have hr46g3 : g3 46 = f 46 := (hrg3 46 (by decide) (by decide) (by decide)).trans (ii_up_row _ _ (by decide))
            have hr47g3 : g3 47 = f 47 := (hrg3 47 (by decide) (by decide) (by decide)).trans (ii_up_row _ _ (by decide))
            have hBg3 : pk_B g3 b := by unfold pk_B; rw [hr41g3, hr43g3, hr44g3, hr45g3, hr46g3, hr47g3]; exact hB
            have hle : (S.filter (fun q => decide (q / 2 ≠ r))).length ≤ S.length := List.length_filter_le _ _
            have hfq : ∀ j, j < (S.filter (fun q => decide (q / 2 ≠ r))).length → ∃ i, i < S.length ∧ S.getD i 0 = (S.filter (fun q => decide (q / 2 ≠ r))).getD j 0 := fun j hj => gd_of_mem (List.mem_filter.mp (gd_mem (d := 0) hj)).1
            have hSg3 : mt_I g3 b (S.filter (fun q => decide (q / 2 ≠ r))) := ⟨by rw [eg3, ii_up_s], by omega, fun j hj => by rw [eg3, ii_up_o _ _ _ (by decide)]; exact hkept j hj, fun j hj => by obtain ⟨i, hi, hz⟩ := hfq j hj; rw [← hz]; exact hb64 i hi⟩
            refine a_aload_n C dX10_cancel_121 rfl ?_
            refine a_iload_n C dX10_cancel_122 rfl ?_
            refine a_callV (o := 40) (As := [ii_v ((b : Nat) : Int)]) C (m_stopsAt hl g3 w b hb4 hvg3 hBg3 hSg3 (by omega) (fun j hj => by obtain ⟨i, hi, hz⟩ := hfq j hj; rw [← hz]; exact hq i hi) (by rw [h4g3 32 (by decide) (by decide)]; exact hnow) e0 (by rw [h4g3 31 (by decide) (by decide)]; exact he) (by omega)) co_X10_stopsAt in_X10 ml_X10_219 im_X10_stopsAt se_X10_stopsAt rfl rfl ar_X10_stopsAt ⟨by decide, by decide, by decide, by decide⟩ rfl (Nat.le_of_ble_eq_true rfl) dX10_cancel_123 (a_dF ?_) a_nF
            intro vg4 g4 hvg4
            obtain ⟨rfl, hsg4, hmg4, hxg4, hyg4⟩ := hvg4
            rw [hr44g3, hr45g3] at hsg4 hmg4
            refine a_pop C dX10_cancel_126 rfl ?_
            refine a_iload_n C dX10_cancel_127 rfl ?_
            refine a_iret C ?_ (by decide) (by decide) dX10_cancel_128
            rw [hPost]
            refine ab_F_of ⟨rfl, ?_, me_end hrg3 h4g3 (hmg4), hsg4, fun i hi => ?_, fun i hi => ?_⟩
            · rw [hmg4 40 (by decide) (by decide), mm_D0 (by decide)]; exact h0g3
            · exact (hxg4 i hi).trans (by rw [eg3, ii_up_k _ _ hi, hg3 51 (by decide), ii_up_o _ _ _ (by decide), ii_up_o _ _ _ (by decide)])
            · exact (hyg4 i hi).trans (by rw [eg3, ii_up_o _ _ _ (by decide)]; exact hoth i hi)
          · skip
            refine a_aload_n C dX10_cancel_67 rfl ?_
            refine a_get (ci := 11) (i := 12) (v := .ref (ad 52)) C iw_X10 rfl (by decide) rfl fl_X10_43 rfl rfl dX10_cancel_68 ?_
            refine a_bipush C dX10_cancel_71 (by decide) ?_
            refine a_iload_n C dX10_cancel_73 rfl ?_
            refine a_imul C dX10_cancel_74 ?_
            refine a_iload C dX10_cancel_75 rfl ?_
            refine a_iadd C dX10_cancel_77 ?_
            refine a_iald (o := 52) (N := 32) ((8 * b) + k) C dX10_cancel_78 rfl (by omega) (by omega) (by decide) ?_
            refine a_top (w := ii_v (g3 52 ((8 * b) + k))) rfl ?_
            refine a_top (w := ii_v ((S.getD k 0 : Nat) : Int)) (congrArg (fun q => ii_v q) (hrest k (Nat.le_refl _) (by omega))) ?_
            refine a_istore (L' := [(0, .ref (ad 40)), (1, ii_v ((r : Nat) : Int)), (2, ii_v ((b : Nat) : Int)), (3, ii_v ((((S.take k).filter (fun q => decide (q / 2 ≠ r))).length : Nat) : Int)), (4, ii_v ((k : Nat) : Int)), (5, ii_v (((S.getD k 0) : Nat) : Int))]) C dX10_cancel_79 (by decide) rfl ?_
            have hk64 := hb64 k (by omega)
            have hkl : k < S.length := by omega
            have hnl : ((S.take k).filter (fun q => decide (q / 2 ≠ r))).length ≤ k := Nat.le_trans (List.length_filter_le _ _) (by rw [List.length_take]; omega)
            refine a_iload C dX10_cancel_81 rfl ?_
            refine a_iconst C dX10_cancel_83 ?_
            refine a_idiv C dX10_cancel_84 (by omega) (by omega) ?_
            refine a_iload_n C dX10_cancel_85 rfl ?_
            refine a_icmp_ne (tgt := 92) C dX10_cancel_86 rfl (by unfold ii_B; omega) (by unfold ii_B; omega) (fun h86 => ?_) (fun h86 => ?_)
            · skip
              have hTk : (S.take (k + 1)).filter (fun q => decide (q / 2 ≠ r)) = (S.take k).filter (fun q => decide (q / 2 ≠ r)) ++ [S.getD k 0] := by rw [fl_step hkl, if_pos (show (fun q => decide (q / 2 ≠ r)) (S.getD k 0) = true from decide_eq_true (by omega))]
              refine a_aload_n C dX10_cancel_92 rfl ?_
              refine a_get (ci := 11) (i := 12) (v := .ref (ad 52)) C iw_X10 rfl (by decide) rfl fl_X10_43 rfl rfl dX10_cancel_93 ?_
              refine a_bipush C dX10_cancel_96 (by decide) ?_
              refine a_iload_n C dX10_cancel_98 rfl ?_
              refine a_imul C dX10_cancel_99 ?_
              refine a_iload_n C dX10_cancel_100 rfl ?_
              refine a_iadd C dX10_cancel_101 ?_
              refine a_iload C dX10_cancel_102 rfl ?_
              refine a_iast (o := 52) (N := 32) ((8 * b) + ((S.take k).filter (fun q => decide (q / 2 ≠ r))).length) C dX10_cancel_104 rfl (by omega) (by omega) (by decide) ?_
              obtain ⟨g5, eg5⟩ : ∃ F : Nat → Nat → Int, F = ii_up g3 52 ((8 * b) + ((S.take k).filter (fun q => decide (q / 2 ≠ r))).length) (((S.getD k 0) : Nat) : Int) := ⟨_, rfl⟩
              rw [← eg5]
              refine a_iinc (L' := [(0, .ref (ad 40)), (1, ii_v ((r : Nat) : Int)), (2, ii_v ((b : Nat) : Int)), (3, ii_v (((((S.take k).filter (fun q => decide (q / 2 ≠ r))).length : Nat) : Int) + 1)), (4, ii_v ((k : Nat) : Int)), (5, ii_v (((S.getD k 0) : Nat) : Int))]) C dX10_cancel_105 rfl (by decide) rfl ?_
              rw [show (((((S.take k).filter (fun q => decide (q / 2 ≠ r))).length : Nat) : Int) + 1) = ((((S.take (k + 1)).filter (fun q => decide (q / 2 ≠ r))).length : Nat) : Int) by rw [hTk, List.length_append]; simp]
              refine a_iinc (L' := [(0, .ref (ad 40)), (1, ii_v ((r : Nat) : Int)), (2, ii_v ((b : Nat) : Int)), (3, ii_v ((((S.take (k + 1)).filter (fun q => decide (q / 2 ≠ r))).length : Nat) : Int)), (4, ii_v (((k : Nat) : Int) + 1)), (5, ii_v (((S.getD k 0) : Nat) : Int))]) C dX10_cancel_108 rfl (by decide) rfl ?_
              refine a_goto (tgt := 56) C dX10_cancel_111 rfl ?_
              refine a_pick [0, 1, 2, 3, 4] (L2 := [(0, .ref (ad 40)), (1, ii_v ((r : Nat) : Int)), (2, ii_v ((b : Nat) : Int)), (3, ii_v ((((S.take (k + 1)).filter (fun q => decide (q / 2 ≠ r))).length : Nat) : Int)), (4, ii_v (((k : Nat) : Int) + 1))]) rfl ?_
              exact ih56 (k + 1) g5 (by omega) (by omega) (fun o h => by rw [eg5, ii_up_row _ _ h]; exact hg3 o h) (by rw [hTk, eg5]; exact cn_app (fun j hj => by rw [ii_up_k _ _ (by omega)]; exact hkept j hj) (ii_up_s _ _ _ _)) (fun j h1 h2 => by rw [eg5, ii_up_k _ _ (by omega)]; exact hrest j (by omega) h2) (fun i hi => by rw [eg5, ii_up_k _ _ (by omega)]; exact hoth i hi)
            · skip
              have hTk : (S.take (k + 1)).filter (fun q => decide (q / 2 ≠ r)) = (S.take k).filter (fun q => decide (q / 2 ≠ r)) := by rw [fl_step hkl, if_neg (fun z => (of_decide_eq_true (p := S.getD k 0 / 2 ≠ r) z) (by omega)), List.append_nil]
              refine a_goto (tgt := 108) C dX10_cancel_89 rfl ?_
              rw [← hTk]
              refine a_iinc (L' := [(0, .ref (ad 40)), (1, ii_v ((r : Nat) : Int)), (2, ii_v ((b : Nat) : Int)), (3, ii_v ((((S.take (k + 1)).filter (fun q => decide (q / 2 ≠ r))).length : Nat) : Int)), (4, ii_v (((k : Nat) : Int) + 1)), (5, ii_v (((S.getD k 0) : Nat) : Int))]) C dX10_cancel_108 rfl (by decide) rfl ?_
              refine a_goto (tgt := 56) C dX10_cancel_111 rfl ?_
              refine a_pick [0, 1, 2, 3, 4] (L2 := [(0, .ref (ad 40)), (1, ii_v ((r : Nat) : Int)), (2, ii_v ((b : Nat) : Int)), (3, ii_v ((((S.take (k + 1)).filter (fun q => decide (q / 2 ≠ r))).length : Nat) : Int)), (4, ii_v (((k : Nat) : Int) + 1))]) rfl ?_
              exact ih56 (k + 1) g3 (by omega) (by omega) hg3 (by rw [hTk]; exact hkept) (fun j h1 h2 => hrest j (by omega) h2) hoth
      exact loop56 (_ + 1) 0 g2 (Nat.lt_succ_self _) (Nat.zero_le _) (fun o h => by rw [eg2, eg1]) (fun j h => absurd h (Nat.not_lt_zero j)) (fun j _ hj => by rw [eg2, eg1, ii_up_o _ _ _ (by decide), ii_up_o _ _ _ (by decide)]; exact hj8 j hj) (fun i _ => by rw [eg2, eg1, ii_up_o _ _ _ (by decide), ii_up_o _ _ _ (by decide)])
    · skip
      exact absurd (by omega) h27
  · skip
    omega
set_option maxRecDepth 20000 in
set_option maxHeartbeats 2000000 in
theorem m_improve {l : Launch} {E : ab_E} {base : Nat} (hl : l.stackTraces = false) {ad : Nat → Nat} (f : Nat → Nat → Int) (w : Nat × Nat × Int64 × UInt64) (b : Nat) (hb : (b : Int) < f 40 29) (hm : 0 ≤ f 40 29 ∧ f 40 29 ≤ 4) {v : Nat → Nat → Int} (hv : pj_C f v) (hB : pk_B f b) (hnow : 0 ≤ f 40 32 ∧ f 40 32 ≤ 100000) (n : Nat) (hn : f 40 30 = (n : Int)) (hn30 : n ≤ 30) (hrid : ∀ r, r < n → (0 ≤ f 57 r ∧ f 57 r ≤ 6) ∧ st_ok (f 63 r) ∧ -1 ≤ f 60 r ∧ f 60 r ≤ 10) {S : List Nat} (hS : mt_I f b S) (hS6 : S.length ≤ 6) (hq : ∀ j, j < S.length → S.getD j 0 / 2 ≤ 30) (hfd : 0 ≤ (om_f v (mB f n b) (f 40 32) S n S.length [] (-1, [])).1) (hFq : ∀ j, j < (om_f v (mB f n b) (f 40 32) S n S.length [] (-1, [])).2.length → (om_f v (mB f n b) (f 40 32) S n S.length [] (-1, [])).2.getD j 0 / 2 ≤ 30) (e0 : Nat) (he : f 40 31 = (e0 : Int)) (h60 : e0 + S.length ≤ 60)  : ab_M l E base yX10_improve cX10_improve 4 (some .int) 16 0 0 [.ref (ad 40), ii_v ((b : Nat) : Int)] ab_x4 ad (f, w) (ab_F ad w (fun ov g => ov = some (ii_v (pl_len v (f 46 b) (f 47 b) S (f 44 b) (f 45 b) - (om_f v (mB f n b) (f 40 32) S n S.length [] (-1, [])).1)) ∧ g 40 0 = 0 ∧ me_E g (mm_D f b ((om_f v (mB f n b) (f 40 32) S n S.length [] (-1, [])).2.take (du_n v (f 44 b) (f 45 b) (om_f v (mB f n b) (f 40 32) S n S.length [] (-1, [])).2))) ∧ mt_I g b ((om_f v (mB f n b) (f 40 32) S n S.length [] (-1, [])).2.drop (du_n v (f 44 b) (f 45 b) (om_f v (mB f n b) (f 40 32) S n S.length [] (-1, [])).2)) ∧ (∀ i, i ≠ b → g 51 i = f 51 i) ∧ (∀ i, i < 8 * b ∨ 8 * b + 8 ≤ i → g 52 i = f 52 i))) := by
  obtain ⟨Post, hPost⟩ : ∃ P : ab_P, P = (ab_F ad w (fun ov g => ov = some (ii_v (pl_len v (f 46 b) (f 47 b) S (f 44 b) (f 45 b) - (om_f v (mB f n b) (f 40 32) S n S.length [] (-1, [])).1)) ∧ g 40 0 = 0 ∧ me_E g (mm_D f b ((om_f v (mB f n b) (f 40 32) S n S.length [] (-1, [])).2.take (du_n v (f 44 b) (f 45 b) (om_f v (mB f n b) (f 40 32) S n S.length [] (-1, [])).2))) ∧ mt_I g b ((om_f v (mB f n b) (f 40 32) S n S.length [] (-1, [])).2.drop (du_n v (f 44 b) (f 45 b) (om_f v (mB f n b) (f 40 32) S n S.length [] (-1, [])).2)) ∧ (∀ i, i ≠ b → g 51 i = f 51 i) ∧ (∀ i, i < 8 * b ∨ 8 * b + 8 ≤ i → g 52 i = f 52 i))) := ⟨_, rfl⟩
  rw [← hPost]
  refine ab_of RX10 [(0, .ref (ad 40)), (1, ii_v ((b : Nat) : Int))] hl (by decide) rfl (Nat.le_of_ble_eq_true rfl) rfl ?_
  intro p e s m args below meth c C T0 hnm
  have hb4 : b < 4 := by omega
  obtain ⟨hc, h8, hj8, hb64⟩ := id hS
  refine a_aload_n C dX10_improve_0 rfl ?_
  refine a_iconst C dX10_improve_1 ?_
  refine a_put (ci := 11) (i := 0) C iw_X10 rfl (by decide) rfl tyX10 tyX10_ok nmX10 rfl rfl fl_X10_114 rfl rfl rfl rfl dX10_improve_2 ?_
  obtain ⟨g1, eg1⟩ : ∃ F : Nat → Nat → Int, F = ii_up f 40 0 0 := ⟨_, rfl⟩
  rw [← eg1]
  have hrg1 : ∀ o, o ≠ 40 → g1 o = f o := fun o h => by rw [eg1]; exact ii_up_row _ _ h
  have h4g1 : ∀ i, i ≠ 0 → g1 40 i = f 40 i := fun i h => by rw [eg1]; exact ii_up_k _ _ h
  have h0g1 : g1 40 0 = 0 := by rw [eg1]; exact ii_up_s _ _ _ _
  have hvg1 : pj_C g1 v := pj_same hv (fun o2 h => hrg1 o2 (by omega))
  have hBg1 : pk_B g1 b := by unfold pk_B; rw [hrg1 41 (by decide), hrg1 43 (by decide), hrg1 44 (by decide), hrg1 45 (by decide), hrg1 46 (by decide), hrg1 47 (by decide)]; exact hB
  have hSg1 : mt_I g1 b S := mt_same hS (hrg1 51 (by decide)) (hrg1 52 (by decide))
  refine a_aload_n C dX10_improve_5 rfl ?_
  refine a_iload_n C dX10_improve_6 rfl ?_
  refine a_callV (o := 40) (As := [ii_v ((b : Nat) : Int)]) C (m_isBus hl g1 w ((b : Nat) : Int) (by omega) (by rw [show g1 40 29 = f 40 29 from by rw [eg1]; exact ii_up_k _ _ (by decide)]; omega)) co_X10_isBus in_X10 ml_X10_235 im_X10_isBus se_X10_isBus rfl rfl ar_X10_isBus ⟨by decide, by decide, by decide, by decide⟩ rfl (Nat.le_of_ble_eq_true rfl) dX10_improve_7 (a_dR ?_) a_nR
  rw [show g1 40 29 = f 40 29 from by rw [eg1]; exact ii_up_k _ _ (by decide)]
  refine a_bif_ne (tgt := 19) C dX10_improve_10 rfl (fun h10 => ?_) (fun h10 => ?_)
  · skip
    refine a_aload_n C dX10_improve_19 rfl ?_
    refine a_iload_n C dX10_improve_20 rfl ?_
    refine a_callV (o := 40) (As := [ii_v ((b : Nat) : Int)]) C (m_lengthOf hl g1 w b hb4 hvg1 hBg1 hSg1 hS6 hq (by rw [h4g1 32 (by decide)]; exact hnow)) co_X10_lengthOf in_X10 ml_X10_179 im_X10_lengthOf se_X10_lengthOf rfl rfl ar_X10_lengthOf ⟨by decide, by decide, by decide, by decide⟩ rfl (Nat.le_of_ble_eq_true rfl) dX10_improve_21 (a_dF ?_) a_nF
    intro vg2 g2 hvg2
    obtain ⟨hr0, -, hTg2, hfg2, hig2⟩ := hvg2
    rw [hrg1 46 (by decide), hrg1 47 (by decide), hrg1 44 (by decide), hrg1 45 (by decide)] at hr0
    rw [hrg1 44 (by decide), hrg1 45 (by decide), h4g1 32 (by decide)] at hTg2
    subst hr0
    have hrg2 : ∀ o, o ≠ 40 → (o < 75 ∨ 76 < o) → (o < 83 ∨ 84 < o) → g2 o = f o := fun o h1 h2 h3 => (hfg2 o h1 (by omega) (by omega)).trans (hrg1 o h1)
    have h4g2 : ∀ i, i < 37 → i ≠ 0 → g2 40 i = f 40 i := fun i h1 h2 => (hig2 i (by omega)).trans (h4g1 i h2)
    have h0g2 : g2 40 0 = 0 := (hig2 0 (by decide)).trans h0g1
    have hvg2 : pj_C g2 v := pj_same hv (fun o2 h => hrg2 o2 (by omega) (by omega) (by omega))
    have hr41g2 : g2 41 = f 41 := hrg2 41 (by decide) (by decide) (by decide)
    have hr43g2 : g2 43 = f 43 := hrg2 43 (by decide) (by decide) (by decide)
    have hr44g2 : g2 44 = f 44 := hrg2 44 (by decide) (by decide) (by decide)
    have hr45g2 : g2 45 = f 45 := hrg2 45 (by decide) (by decide) (by decide)
    have hr46g2 : g2 46 = f 46 := hrg2 46 (by decide) (by decide) (by decide)
    have hr47g2 : g2 47 = f 47 := hrg2 47 (by decide) (by decide) (by decide)
    have hr51g2 : g2 51 = f 51 := hrg2 51 (by decide) (by decide) (by decide)
    have hr52g2 : g2 52 = f 52 := hrg2 52 (by decide) (by decide) (by decide)
    have hr57g2 : g2 57 = f 57 := hrg2 57 (by decide) (by decide) (by decide)
    have hr60g2 : g2 60 = f 60 := hrg2 60 (by decide) (by decide) (by decide)
    have hr63g2 : g2 63 = f 63 := hrg2 63 (by decide) (by decide) (by decide)
    have hBg2 : pk_B g2 b := by unfold pk_B; rw [hr41g2, hr43g2, hr44g2, hr45g2, hr46g2, hr47g2]; exact hB
    have hSg2 : mt_I g2 b S := mt_same hS hr51g2 hr52g2
    have hridg2 : ∀ r, r < n → (0 ≤ g2 57 r ∧ g2 57 r ≤ 6) ∧ st_ok (g2 63 r) ∧ -1 ≤ g2 60 r ∧ g2 60 r ≤ 10 := fun r hr => by rw [hr57g2, hr63g2, hr60g2]; exact hrid r hr
    have hmBg2 : mB g2 n b = mB f n b := mB_same hr41g2 hr43g2 hr44g2 hr45g2 hr46g2 hr47g2 (ab_same hr57g2 hr63g2 hr60g2 b n)
    refine a_istore_n (L' := [(0, .ref (ad 40)), (1, ii_v ((b : Nat) : Int)), (2, ii_v (pl_len v (f 46 b) (f 47 b) S (f 44 b) (f 45 b)))]) C dX10_improve_24 (by decide) rfl ?_
    refine a_aload_n C dX10_improve_25 rfl ?_
    refine a_iload_n C dX10_improve_26 rfl ?_
    refine a_callV (o := 40) (As := [ii_v ((b : Nat) : Int)]) C (m_findsBest hl g2 w b hb4 hvg2 hBg2 (by rw [h4g2 32 (by decide) (by decide)]; exact hnow) n (by rw [h4g2 30 (by decide) (by decide)]; exact hn) hn30 hridg2 hSg2 hS6) co_X10_findsBest in_X10 ml_X10_257 im_X10_findsBest se_X10_findsBest rfl rfl ar_X10_findsBest ⟨by decide, by decide, by decide, by decide⟩ rfl (Nat.le_of_ble_eq_true rfl) dX10_improve_27 (a_dF ?_) a_nF
    intro vg3 g3 hvg3
    obtain ⟨rfl, hsg3, hfg3, h4g3, homg3⟩ := hvg3
    rw [hmBg2, h4g2 32 (by decide) (by decide)] at hsg3
    obtain ⟨hs1, hs2, hs3⟩ := hsg3
    obtain ⟨hFl, hFj⟩ := hs3 hfd
    refine a_iconst C dX10_improve_30 ?_
    refine a_istore_n (L' := [(0, .ref (ad 40)), (1, ii_v ((b : Nat) : Int)), (2, ii_v (pl_len v (f 46 b) (f 47 b) S (f 44 b) (f 45 b))), (3, ii_v 0)]) C dX10_improve_31 (by decide) rfl ?_
    have loop32 : ∀ (NN32 : Nat) (k : Nat) (g4 : Nat → Nat → Int), S.length - k < NN32 → (k ≤ S.length) → (∀ o, o ≠ 52 → g4 o = g3 o) → (∀ j, j < k → g4 52 (8 * b + j) = (((om_f v (mB f n b) (f 40 32) S n S.length [] (-1, [])).2.getD j 0 : Nat) : Int)) → (∀ i, i < 8 * b ∨ 8 * b + 8 ≤ i → g4 52 i = f 52 i) → ab_W p l e (ab_rm 16 0 0) s m args below meth c E base 4 (ab_Q below E base Post args s 0 0) ab_x4 ad (g4, w) 0 0 32 [(0, .ref (ad 40)), (1, ii_v ((b : Nat) : Int)), (2, ii_v (pl_len v (f 46 b) (f 47 b) S (f 44 b) (f 45 b))), (3, ii_v ((k : Nat) : Int))] [] := by
      intro NN32
      induction NN32 with
      | zero => intro k g4 hNN; exact absurd hNN (Nat.not_lt_zero _)
      | succ NN32 ih32 =>
        intro k g4 hNN hk hg4 hkept hoth
        refine a_iload_n C dX10_improve_32 rfl ?_
        refine a_aload_n C dX10_improve_33 rfl ?_
        refine a_get (ci := 11) (i := 46) (v := ii_v (g4 40 46)) C iw_X10 rfl (by decide) rfl fl_X10_241 rfl rfl dX10_improve_34 ?_
        refine a_top (w := ii_v ((S.length : Nat) : Int)) (congrArg (fun q => ii_v q) ((congrFun (hg4 40 (by decide)) 46).trans homg3)) ?_
        refine a_icmp_ge (tgt := 63) C dX10_improve_37 rfl (by unfold ii_B; omega) (by unfold ii_B; omega) (fun h37 => ?_) (fun h37 => ?_)
        · skip
          have hkS : k = S.length := by omega
          have hrg4 : ∀ o, o ≠ 40 → (o < 51 ∨ 52 < o) → (o < 75 ∨ 76 < o) → (o < 83 ∨ 84 < o) → g4 o = f o := fun o h1 h2 h3 h5 => (hg4 o (by omega)).trans ((hfg3 o h1 h3 h5).trans (hrg2 o h1 h3 h5))
          have h4g4 : ∀ i, i < 37 → i ≠ 0 → g4 40 i = f 40 i := fun i h1 h2 => (congrFun (hg4 40 (by decide)) i).trans ((h4g3 i (by omega) (by omega) (by omega)).trans (h4g2 i h1 h2))
          have h0g4 : g4 40 0 = 0 := (congrFun (hg4 40 (by decide)) 0).trans ((h4g3 0 (by decide) (by decide) (by decide)).trans h0g2)
          have h45g4 : g4 40 45 = (om_f v (mB f n b) (f 40 32) S n S.length [] (-1, [])).1 := (congrFun (hg4 40 (by decide)) 45).trans hs1
          have hvg4 : pj_C g4 v := pj_same hv (fun o2 h => hrg4 o2 (by omega) (by omega) (by omega) (by omega))
          have hr41g4 : g4 41 = f 41 := hrg4 41 (by decide) (by decide) (by decide) (by decide)
          have hr43g4 : g4 43 = f 43 := hrg4 43 (by decide) (by decide) (by decide) (by decide)
          have hr44g4 : g4 44 = f 44 := hrg4 44 (by decide) (by decide) (by decide) (by decide)
          have hr45g4 : g4 45 = f 45 := hrg4 45 (by decide) (by decide) (by decide) (by decide)
          have hr46g4 : g4 46 = f 46 := hrg4 46 (by decide) (by decide) (by decide) (by decide)
          have hr47g4 : g4 47 = f 47 := hrg4 47 (by decide) (by decide) (by decide) (by decide)
          have hBg4 : pk_B g4 b := by unfold pk_B; rw [hr41g4, hr43g4, hr44g4, hr45g4, hr46g4, hr47g4]; exact hB
          have h51g4 : g4 51 = f 51 := (hg4 51 (by decide)).trans ((hfg3 51 (by decide) (by decide) (by decide)).trans hr51g2)
          have hSg4 : mt_I g4 b (om_f v (mB f n b) (f 40 32) S n S.length [] (-1, [])).2 := ⟨by rw [h51g4, hFl]; exact hc, by omega, fun j hj => hkept j (by omega), fun j hj => by have := hFq j hj; omega⟩
          refine a_aload_n C dX10_improve_63 rfl ?_
          refine a_iload_n C dX10_improve_64 rfl ?_
          refine a_callV (o := 40) (As := [ii_v ((b : Nat) : Int)]) C (m_stopsAt hl g4 w b hb4 hvg4 hBg4 hSg4 (by omega) hFq (by rw [h4g4 32 (by decide) (by decide)]; exact hnow) e0 (by rw [h4g4 31 (by decide) (by decide)]; exact he) (by omega)) co_X10_stopsAt in_X10 ml_X10_219 im_X10_stopsAt se_X10_stopsAt rfl rfl ar_X10_stopsAt ⟨by decide, by decide, by decide, by decide⟩ rfl (Nat.le_of_ble_eq_true rfl) dX10_improve_65 (a_dF ?_) a_nF
          intro vg4 g4 hvg4
          obtain ⟨rfl, hsg4, hmg4, hxg4, hyg4⟩ := hvg4
          rw [hr44g4, hr45g4] at hsg4 hmg4
          have h45g4 : g4 40 45 = (om_f v (mB f n b) (f 40 32) S n S.length [] (-1, [])).1 := by rw [hmg4 40 (by decide) (by decide), mm_D0 (by decide)]; exact h45g4
          refine a_pop C dX10_improve_68 rfl ?_
          refine a_iload_n C dX10_improve_69 rfl ?_
          refine a_aload_n C dX10_improve_70 rfl ?_
          refine a_get (ci := 11) (i := 45) (v := ii_v (g4 40 45)) C iw_X10 rfl (by decide) rfl fl_X10_244 rfl rfl dX10_improve_71 ?_
          refine a_top (w := ii_v ((om_f v (mB f n b) (f 40 32) S n S.length [] (-1, [])).1)) (congrArg (fun q => ii_v q) h45g4) ?_
          refine a_isub C dX10_improve_74 ?_
          refine a_iret C ?_ (by decide) (by decide) dX10_improve_75
          rw [hPost]
          refine ab_F_of ⟨rfl, ?_, me_end2 hrg4 h4g4 (hmg4), hsg4, fun i hi => ?_, fun i hi => ?_⟩
          · rw [hmg4 40 (by decide) (by decide), mm_D0 (by decide)]; exact h0g4
          · exact (hxg4 i hi).trans (by rw [h51g4])
          · exact (hyg4 i hi).trans (hoth i hi)
        · skip
          refine a_aload_n C dX10_improve_40 rfl ?_
          refine a_get (ci := 11) (i := 12) (v := .ref (ad 52)) C iw_X10 rfl (by decide) rfl fl_X10_43 rfl rfl dX10_improve_41 ?_
          refine a_bipush C dX10_improve_44 (by decide) ?_
          refine a_iload_n C dX10_improve_46 rfl ?_
          refine a_imul C dX10_improve_47 ?_
          refine a_iload_n C dX10_improve_48 rfl ?_
          refine a_iadd C dX10_improve_49 ?_
          refine a_aload_n C dX10_improve_50 rfl ?_
          refine a_get (ci := 11) (i := 43) (v := .ref (ad 83)) C iw_X10 rfl (by decide) rfl fl_X10_108 rfl rfl dX10_improve_51 ?_
          refine a_iload_n C dX10_improve_54 rfl ?_
          refine a_iald (o := 83) (N := 8) k C dX10_improve_55 rfl (by omega) (by omega) (by decide) ?_
          refine a_top (w := ii_v (g4 83 k)) rfl ?_
          refine a_top (w := ii_v (((om_f v (mB f n b) (f 40 32) S n S.length [] (-1, [])).2.getD k 0 : Nat) : Int)) (congrArg (fun q => ii_v q) ((congrFun (hg4 83 (by decide)) k).trans (hFj k (by omega)))) ?_
          refine a_iast (o := 52) (N := 32) ((8 * b) + k) C dX10_improve_56 rfl (by omega) (by omega) (by decide) ?_
          obtain ⟨g5, eg5⟩ : ∃ F : Nat → Nat → Int, F = ii_up g4 52 ((8 * b) + k) ((((om_f v (mB f n b) (f 40 32) S n S.length [] (-1, [])).2.getD k 0) : Nat) : Int) := ⟨_, rfl⟩
          rw [← eg5]
          refine a_iinc (L' := [(0, .ref (ad 40)), (1, ii_v ((b : Nat) : Int)), (2, ii_v (pl_len v (f 46 b) (f 47 b) S (f 44 b) (f 45 b))), (3, ii_v (((k : Nat) : Int) + 1))]) C dX10_improve_57 rfl (by decide) rfl ?_
          refine a_goto (tgt := 32) C dX10_improve_60 rfl ?_
          exact ih32 (k + 1) g5 (by omega) (by omega) (fun o h => by rw [eg5, ii_up_row _ _ h]; exact hg4 o h) (by rw [eg5]; exact lt_s (fun j h => by rw [ii_up_k _ _ (by omega)]; exact hkept j h) (ii_up_s _ _ _ _)) (fun i hi => by rw [eg5, ii_up_k _ _ (by omega)]; exact hoth i hi)
    exact loop32 (_ + 1) 0 g3 (Nat.lt_succ_self _) (Nat.zero_le _) (fun _ _ => rfl) (fun j h => absurd h (Nat.not_lt_zero j)) (fun i _ => by rw [hfg3 52 (by decide) (by decide) (by decide), hr52g2])
  · skip
    omega
set_option maxRecDepth 20000 in
set_option maxHeartbeats 2000000 in
theorem n_addBus {l : Launch} {E : ab_E} {base : Nat} (hl : l.stackTraces = false) {ad : Nat → Nat} (f : Nat → Nat → Int) (w : Nat × Nat × Int64 × UInt64) (s0 c0 x y : Int) (zs0 : -2147483648 ≤ s0 ∧ s0 < 2147483648) (zc0 : -2147483648 ≤ c0 ∧ c0 < 2147483648) (zx : -2147483648 ≤ x ∧ x < 2147483648) (zy : -2147483648 ≤ y ∧ y < 2147483648)(h : ¬ ((1 ≤ s0 ∧ s0 ≤ 6) ∧ (20 ≤ c0 ∧ c0 ≤ 200) ∧ (0 ≤ x ∧ x ≤ 20) ∧ (0 ≤ y ∧ y ≤ 20))) : ab_M l E base yX10_addBus cX10_addBus 5 (some .int) 3 0 0 [.ref (ad 40), ii_v s0, ii_v c0, ii_v x, ii_v y] ab_x4 ad (f, w) (ab_R (ii_v (0)) ab_x4 ad (ii_up f 40 0 1, w)) := by
  obtain ⟨Post, hPost⟩ : ∃ P : ab_P, P = (ab_R (ii_v (0)) ab_x4 ad (ii_up f 40 0 1, w)) := ⟨_, rfl⟩
  rw [← hPost]
  refine ab_of RX10 [(0, .ref (ad 40)), (1, ii_v s0), (2, ii_v c0), (3, ii_v x), (4, ii_v y)] hl (by decide) rfl (Nat.le_of_ble_eq_true rfl) rfl ?_
  intro p e s m args below meth c C T0 hnm
  refine a_aload_n C dX10_addBus_0 rfl ?_
  refine a_iconst C dX10_addBus_1 ?_
  refine a_put (ci := 11) (i := 0) C iw_X10 rfl (by decide) rfl tyX10 tyX10_ok nmX10 rfl rfl fl_X10_114 rfl rfl rfl rfl dX10_addBus_2 ?_
  obtain ⟨g1, eg1⟩ : ∃ F : Nat → Nat → Int, F = ii_up f 40 0 0 := ⟨_, rfl⟩
  rw [← eg1]
  refine a_iload_n C dX10_addBus_5 rfl ?_
  refine a_iconst C dX10_addBus_6 ?_
  refine a_bipush C dX10_addBus_7 (by decide) ?_
  refine a_callS (As := [ii_v s0, ii_v 1, ii_v 6]) C (m_isBetween hl g1 w s0 1 6 (by omega) (by omega) (by omega)) co_X10_isBetween in_X10 ml_X10_120 sc_X10_isBetween ar_X10_isBetween ⟨by decide, by decide, by decide, by decide⟩ rfl (Nat.le_of_ble_eq_true rfl) dX10_addBus_9 (a_dR ?_) a_nR
  refine a_bif_eq (tgt := 36) C dX10_addBus_12 rfl (fun h12 => ?_) (fun h12 => ?_)
  · skip
    refine a_aload_n C dX10_addBus_36 rfl ?_
    refine a_iconst C dX10_addBus_37 ?_
    refine a_callV (o := 40) (As := [ii_v 1]) C (m_fails hl g1 w 1) co_X10_fails in_X10 ml_X10_127 im_X10_fails se_X10_fails rfl rfl ar_X10_fails ⟨by decide, by decide, by decide, by decide⟩ rfl (Nat.le_of_ble_eq_true rfl) dX10_addBus_38 (a_dR ?_) a_nR
    obtain ⟨g2, eg2⟩ : ∃ F : Nat → Nat → Int, F = ii_up g1 40 0 1 := ⟨_, rfl⟩
    rw [← eg2]
    refine a_iret C ?_ (by decide) (by decide) dX10_addBus_41
    rw [hPost]
    subst eg2 eg1
    exact ⟨rfl, rfl, rfl, by first | rfl | rw [ii_up_up]⟩
  · skip
    refine a_iload_n C dX10_addBus_15 rfl ?_
    refine a_bipush C dX10_addBus_16 (by decide) ?_
    refine a_sipush C dX10_addBus_18 (by decide) ?_
    refine a_callS (As := [ii_v c0, ii_v 20, ii_v 200]) C (m_isBetween hl g1 w c0 20 200 (by omega) (by omega) (by omega)) co_X10_isBetween in_X10 ml_X10_120 sc_X10_isBetween ar_X10_isBetween ⟨by decide, by decide, by decide, by decide⟩ rfl (Nat.le_of_ble_eq_true rfl) dX10_addBus_21 (a_dR ?_) a_nR
    refine a_bif_eq (tgt := 36) C dX10_addBus_24 rfl (fun h24 => ?_) (fun h24 => ?_)
    · skip
      refine a_aload_n C dX10_addBus_36 rfl ?_
      refine a_iconst C dX10_addBus_37 ?_
      refine a_callV (o := 40) (As := [ii_v 1]) C (m_fails hl g1 w 1) co_X10_fails in_X10 ml_X10_127 im_X10_fails se_X10_fails rfl rfl ar_X10_fails ⟨by decide, by decide, by decide, by decide⟩ rfl (Nat.le_of_ble_eq_true rfl) dX10_addBus_38 (a_dR ?_) a_nR
      obtain ⟨g3, eg3⟩ : ∃ F : Nat → Nat → Int, F = ii_up g1 40 0 1 := ⟨_, rfl⟩
      rw [← eg3]
      refine a_iret C ?_ (by decide) (by decide) dX10_addBus_41
      rw [hPost]
      subst eg3 eg1
      exact ⟨rfl, rfl, rfl, by first | rfl | rw [ii_up_up]⟩
    · skip
      refine a_iload_n C dX10_addBus_27 rfl ?_
      refine a_iload C dX10_addBus_28 rfl ?_
      refine a_callS (As := [ii_v x, ii_v y]) C (m_isPlace hl g1 w x y (by omega) (by omega)) co_X10_isPlace in_X10 ml_X10_131 sc_X10_isPlace ar_X10_isPlace ⟨by decide, by decide, by decide, by decide⟩ rfl (Nat.le_of_ble_eq_true rfl) dX10_addBus_30 (a_dR ?_) a_nR
      refine a_bif_ne (tgt := 42) C dX10_addBus_33 rfl (fun h33 => ?_) (fun h33 => ?_)
      · skip
        exact absurd ⟨h12, h24, h33.1, h33.2⟩ h
      · skip
        refine a_aload_n C dX10_addBus_36 rfl ?_
        refine a_iconst C dX10_addBus_37 ?_
        refine a_callV (o := 40) (As := [ii_v 1]) C (m_fails hl g1 w 1) co_X10_fails in_X10 ml_X10_127 im_X10_fails se_X10_fails rfl rfl ar_X10_fails ⟨by decide, by decide, by decide, by decide⟩ rfl (Nat.le_of_ble_eq_true rfl) dX10_addBus_38 (a_dR ?_) a_nR
        obtain ⟨g4, eg4⟩ : ∃ F : Nat → Nat → Int, F = ii_up g1 40 0 1 := ⟨_, rfl⟩
        rw [← eg4]
        refine a_iret C ?_ (by decide) (by decide) dX10_addBus_41
        rw [hPost]
        subst eg4 eg1
        exact ⟨rfl, rfl, rfl, by first | rfl | rw [ii_up_up]⟩
set_option maxRecDepth 20000 in
set_option maxHeartbeats 2000000 in
theorem n2_addBus {l : Launch} {E : ab_E} {base : Nat} (hl : l.stackTraces = false) {ad : Nat → Nat} (f : Nat → Nat → Int) (w : Nat × Nat × Int64 × UInt64) (s0 c0 x y : Int) (zs0 : -2147483648 ≤ s0 ∧ s0 < 2147483648) (zc0 : -2147483648 ≤ c0 ∧ c0 < 2147483648) (zx : -2147483648 ≤ x ∧ x < 2147483648) (zy : -2147483648 ≤ y ∧ y < 2147483648)(h : ((1 ≤ s0 ∧ s0 ≤ 6) ∧ (20 ≤ c0 ∧ c0 ≤ 200) ∧ (0 ≤ x ∧ x ≤ 20) ∧ (0 ≤ y ∧ y ≤ 20))) (hnb : f 40 29 = 4) : ab_M l E base yX10_addBus cX10_addBus 5 (some .int) 3 0 0 [.ref (ad 40), ii_v s0, ii_v c0, ii_v x, ii_v y] ab_x4 ad (f, w) (ab_R (ii_v (0)) ab_x4 ad (ii_up f 40 0 2, w)) := by
  obtain ⟨Post, hPost⟩ : ∃ P : ab_P, P = (ab_R (ii_v (0)) ab_x4 ad (ii_up f 40 0 2, w)) := ⟨_, rfl⟩
  rw [← hPost]
  refine ab_of RX10 [(0, .ref (ad 40)), (1, ii_v s0), (2, ii_v c0), (3, ii_v x), (4, ii_v y)] hl (by decide) rfl (Nat.le_of_ble_eq_true rfl) rfl ?_
  intro p e s m args below meth c C T0 hnm
  obtain ⟨ha1, ha2, ha3, ha4⟩ := h
  refine a_aload_n C dX10_addBus_0 rfl ?_
  refine a_iconst C dX10_addBus_1 ?_
  refine a_put (ci := 11) (i := 0) C iw_X10 rfl (by decide) rfl tyX10 tyX10_ok nmX10 rfl rfl fl_X10_114 rfl rfl rfl rfl dX10_addBus_2 ?_
  obtain ⟨g1, eg1⟩ : ∃ F : Nat → Nat → Int, F = ii_up f 40 0 0 := ⟨_, rfl⟩
  rw [← eg1]
  refine a_iload_n C dX10_addBus_5 rfl ?_
  refine a_iconst C dX10_addBus_6 ?_
  refine a_bipush C dX10_addBus_7 (by decide) ?_
  refine a_callS (As := [ii_v s0, ii_v 1, ii_v 6]) C (m_isBetween hl g1 w s0 1 6 (by omega) (by omega) (by omega)) co_X10_isBetween in_X10 ml_X10_120 sc_X10_isBetween ar_X10_isBetween ⟨by decide, by decide, by decide, by decide⟩ rfl (Nat.le_of_ble_eq_true rfl) dX10_addBus_9 (a_dR ?_) a_nR
  refine a_bif_eq (tgt := 36) C dX10_addBus_12 rfl (fun h12 => ?_) (fun h12 => ?_)
  · skip
    exact absurd ha1 h12
  · skip
    refine a_iload_n C dX10_addBus_15 rfl ?_
    refine a_bipush C dX10_addBus_16 (by decide) ?_
    refine a_sipush C dX10_addBus_18 (by decide) ?_
    refine a_callS (As := [ii_v c0, ii_v 20, ii_v 200]) C (m_isBetween hl g1 w c0 20 200 (by omega) (by omega) (by omega)) co_X10_isBetween in_X10 ml_X10_120 sc_X10_isBetween ar_X10_isBetween ⟨by decide, by decide, by decide, by decide⟩ rfl (Nat.le_of_ble_eq_true rfl) dX10_addBus_21 (a_dR ?_) a_nR
    refine a_bif_eq (tgt := 36) C dX10_addBus_24 rfl (fun h24 => ?_) (fun h24 => ?_)
    · skip
      exact absurd ha2 h24
    · skip
      refine a_iload_n C dX10_addBus_27 rfl ?_
      refine a_iload C dX10_addBus_28 rfl ?_
      refine a_callS (As := [ii_v x, ii_v y]) C (m_isPlace hl g1 w x y (by omega) (by omega)) co_X10_isPlace in_X10 ml_X10_131 sc_X10_isPlace ar_X10_isPlace ⟨by decide, by decide, by decide, by decide⟩ rfl (Nat.le_of_ble_eq_true rfl) dX10_addBus_30 (a_dR ?_) a_nR
      refine a_bif_ne (tgt := 42) C dX10_addBus_33 rfl (fun h33 => ?_) (fun h33 => ?_)
      · skip
        refine a_aload_n C dX10_addBus_42 rfl ?_
        refine a_get (ci := 11) (i := 29) (v := ii_v (g1 40 29)) C iw_X10 rfl (by decide) rfl fl_X10_117 rfl rfl dX10_addBus_43 ?_
        refine a_top (w := ii_v (f 40 29)) (congrArg (fun q => ii_v q) (show g1 40 29 = (f 40 29) by rw [eg1, ii_up_k _ _ (by first | decide | omega)])) ?_
        refine a_iconst C dX10_addBus_46 ?_
        refine a_icmp_ne (tgt := 56) C dX10_addBus_47 rfl (by unfold ii_B; omega) (by unfold ii_B; omega) (fun h47 => ?_) (fun h47 => ?_)
        · skip
          omega
        · skip
          refine a_aload_n C dX10_addBus_50 rfl ?_
          refine a_iconst C dX10_addBus_51 ?_
          refine a_callV (o := 40) (As := [ii_v 2]) C (m_fails hl g1 w 2) co_X10_fails in_X10 ml_X10_127 im_X10_fails se_X10_fails rfl rfl ar_X10_fails ⟨by decide, by decide, by decide, by decide⟩ rfl (Nat.le_of_ble_eq_true rfl) dX10_addBus_52 (a_dR ?_) a_nR
          obtain ⟨g2, eg2⟩ : ∃ F : Nat → Nat → Int, F = ii_up g1 40 0 2 := ⟨_, rfl⟩
          rw [← eg2]
          refine a_iret C ?_ (by decide) (by decide) dX10_addBus_55
          rw [hPost]
          subst eg2 eg1
          exact ⟨rfl, rfl, rfl, by first | rfl | rw [ii_up_up]⟩
      · skip
        exact absurd ⟨ha3, ha4⟩ h33
set_option maxRecDepth 20000 in
set_option maxHeartbeats 2000000 in
theorem m_addBus {l : Launch} {E : ab_E} {base : Nat} (hl : l.stackTraces = false) {ad : Nat → Nat} (f : Nat → Nat → Int) (w : Nat × Nat × Int64 × UInt64) (s0 c0 x y : Int) (zs0 : -2147483648 ≤ s0 ∧ s0 < 2147483648) (zc0 : -2147483648 ≤ c0 ∧ c0 < 2147483648) (zx : -2147483648 ≤ x ∧ x < 2147483648) (zy : -2147483648 ≤ y ∧ y < 2147483648)(h : ((1 ≤ s0 ∧ s0 ≤ 6) ∧ (20 ≤ c0 ∧ c0 ≤ 200) ∧ (0 ≤ x ∧ x ≤ 20) ∧ (0 ≤ y ∧ y ≤ 20))) (nb : Nat) (hnb : f 40 29 = (nb : Int)) (h4 : nb < 4) : ab_M l E base yX10_addBus cX10_addBus 5 (some .int) 3 0 0 [.ref (ad 40), ii_v s0, ii_v c0, ii_v x, ii_v y] ab_x4 ad (f, w) (ab_R (ii_v (nb : Int)) ab_x4 ad (ii_up (ii_up (ii_up (ii_up (ii_up (ii_up (ii_up (ii_up (ii_up f 40 0 0) 41 nb s0) 42 nb c0) 43 nb c0) 44 nb x) 45 nb y) 46 nb x) 47 nb y) 40 29 ((nb : Int) + 1), w)) := by
  obtain ⟨Post, hPost⟩ : ∃ P : ab_P, P = (ab_R (ii_v (nb : Int)) ab_x4 ad (ii_up (ii_up (ii_up (ii_up (ii_up (ii_up (ii_up (ii_up (ii_up f 40 0 0) 41 nb s0) 42 nb c0) 43 nb c0) 44 nb x) 45 nb y) 46 nb x) 47 nb y) 40 29 ((nb : Int) + 1), w)) := ⟨_, rfl⟩
  rw [← hPost]
  refine ab_of RX10 [(0, .ref (ad 40)), (1, ii_v s0), (2, ii_v c0), (3, ii_v x), (4, ii_v y)] hl (by decide) rfl (Nat.le_of_ble_eq_true rfl) rfl ?_
  intro p e s m args below meth c C T0 hnm
  obtain ⟨ha1, ha2, ha3, ha4⟩ := h
  refine a_aload_n C dX10_addBus_0 rfl ?_
  refine a_iconst C dX10_addBus_1 ?_
  refine a_put (ci := 11) (i := 0) C iw_X10 rfl (by decide) rfl tyX10 tyX10_ok nmX10 rfl rfl fl_X10_114 rfl rfl rfl rfl dX10_addBus_2 ?_
  obtain ⟨g1, eg1⟩ : ∃ F : Nat → Nat → Int, F = ii_up f 40 0 0 := ⟨_, rfl⟩
  rw [← eg1]
  refine a_iload_n C dX10_addBus_5 rfl ?_
  refine a_iconst C dX10_addBus_6 ?_
  refine a_bipush C dX10_addBus_7 (by decide) ?_
  refine a_callS (As := [ii_v s0, ii_v 1, ii_v 6]) C (m_isBetween hl g1 w s0 1 6 (by omega) (by omega) (by omega)) co_X10_isBetween in_X10 ml_X10_120 sc_X10_isBetween ar_X10_isBetween ⟨by decide, by decide, by decide, by decide⟩ rfl (Nat.le_of_ble_eq_true rfl) dX10_addBus_9 (a_dR ?_) a_nR
  refine a_bif_eq (tgt := 36) C dX10_addBus_12 rfl (fun h12 => ?_) (fun h12 => ?_)
  · skip
    exact absurd ha1 h12
  · skip
    refine a_iload_n C dX10_addBus_15 rfl ?_
    refine a_bipush C dX10_addBus_16 (by decide) ?_
    refine a_sipush C dX10_addBus_18 (by decide) ?_
    refine a_callS (As := [ii_v c0, ii_v 20, ii_v 200]) C (m_isBetween hl g1 w c0 20 200 (by omega) (by omega) (by omega)) co_X10_isBetween in_X10 ml_X10_120 sc_X10_isBetween ar_X10_isBetween ⟨by decide, by decide, by decide, by decide⟩ rfl (Nat.le_of_ble_eq_true rfl) dX10_addBus_21 (a_dR ?_) a_nR
    refine a_bif_eq (tgt := 36) C dX10_addBus_24 rfl (fun h24 => ?_) (fun h24 => ?_)
    · skip
      exact absurd ha2 h24
    · skip
      refine a_iload_n C dX10_addBus_27 rfl ?_
      refine a_iload C dX10_addBus_28 rfl ?_
      refine a_callS (As := [ii_v x, ii_v y]) C (m_isPlace hl g1 w x y (by omega) (by omega)) co_X10_isPlace in_X10 ml_X10_131 sc_X10_isPlace ar_X10_isPlace ⟨by decide, by decide, by decide, by decide⟩ rfl (Nat.le_of_ble_eq_true rfl) dX10_addBus_30 (a_dR ?_) a_nR
      refine a_bif_ne (tgt := 42) C dX10_addBus_33 rfl (fun h33 => ?_) (fun h33 => ?_)
      · skip
        refine a_aload_n C dX10_addBus_42 rfl ?_
        refine a_get (ci := 11) (i := 29) (v := ii_v (g1 40 29)) C iw_X10 rfl (by decide) rfl fl_X10_117 rfl rfl dX10_addBus_43 ?_
        refine a_top (w := ii_v (f 40 29)) (congrArg (fun q => ii_v q) (show g1 40 29 = (f 40 29) by rw [eg1, ii_up_k _ _ (by first | decide | omega)])) ?_
        refine a_top (w := ii_v ((nb : Nat) : Int)) (congrArg (fun q => ii_v q) hnb) ?_
        refine a_iconst C dX10_addBus_46 ?_
        refine a_icmp_ne (tgt := 56) C dX10_addBus_47 rfl (by unfold ii_B; omega) (by unfold ii_B; omega) (fun h47 => ?_) (fun h47 => ?_)
        · skip
          refine a_aload_n C dX10_addBus_56 rfl ?_
          refine a_get (ci := 11) (i := 1) (v := .ref (ad 41)) C iw_X10 rfl (by decide) rfl fl_X10_9 rfl rfl dX10_addBus_57 ?_
          refine a_aload_n C dX10_addBus_60 rfl ?_
          refine a_get (ci := 11) (i := 29) (v := ii_v (g1 40 29)) C iw_X10 rfl (by decide) rfl fl_X10_117 rfl rfl dX10_addBus_61 ?_
          refine a_top (w := ii_v (f 40 29)) (congrArg (fun q => ii_v q) (show g1 40 29 = (f 40 29) by rw [eg1, ii_up_k _ _ (by first | decide | omega)])) ?_
          refine a_top (w := ii_v ((nb : Nat) : Int)) (congrArg (fun q => ii_v q) hnb) ?_
          refine a_iload_n C dX10_addBus_64 rfl ?_
          refine a_iast (o := 41) (N := 4) nb C dX10_addBus_65 rfl (by omega) (by omega) (by decide) ?_
          obtain ⟨g2, eg2⟩ : ∃ F : Nat → Nat → Int, F = ii_up g1 41 nb s0 := ⟨_, rfl⟩
          rw [← eg2]
          refine a_aload_n C dX10_addBus_66 rfl ?_
          refine a_get (ci := 11) (i := 2) (v := .ref (ad 42)) C iw_X10 rfl (by decide) rfl fl_X10_13 rfl rfl dX10_addBus_67 ?_
          refine a_aload_n C dX10_addBus_70 rfl ?_
          refine a_get (ci := 11) (i := 29) (v := ii_v (g2 40 29)) C iw_X10 rfl (by decide) rfl fl_X10_117 rfl rfl dX10_addBus_71 ?_
          refine a_top (w := ii_v (f 40 29)) (congrArg (fun q => ii_v q) (show g2 40 29 = (f 40 29) by rw [eg2, ii_up_o _ _ _ (by omega), eg1, ii_up_k _ _ (by first | decide | omega)])) ?_
          refine a_top (w := ii_v ((nb : Nat) : Int)) (congrArg (fun q => ii_v q) hnb) ?_
          refine a_iload_n C dX10_addBus_74 rfl ?_
          refine a_iast (o := 42) (N := 4) nb C dX10_addBus_75 rfl (by omega) (by omega) (by decide) ?_
          obtain ⟨g3, eg3⟩ : ∃ F : Nat → Nat → Int, F = ii_up g2 42 nb c0 := ⟨_, rfl⟩
          rw [← eg3]
          refine a_aload_n C dX10_addBus_76 rfl ?_
          refine a_get (ci := 11) (i := 3) (v := .ref (ad 43)) C iw_X10 rfl (by decide) rfl fl_X10_16 rfl rfl dX10_addBus_77 ?_
          refine a_aload_n C dX10_addBus_80 rfl ?_
          refine a_get (ci := 11) (i := 29) (v := ii_v (g3 40 29)) C iw_X10 rfl (by decide) rfl fl_X10_117 rfl rfl dX10_addBus_81 ?_
          refine a_top (w := ii_v (f 40 29)) (congrArg (fun q => ii_v q) (show g3 40 29 = (f 40 29) by rw [eg3, ii_up_o _ _ _ (by omega), eg2, ii_up_o _ _ _ (by omega), eg1, ii_up_k _ _ (by first | decide | omega)])) ?_
          refine a_top (w := ii_v ((nb : Nat) : Int)) (congrArg (fun q => ii_v q) hnb) ?_
          refine a_iload_n C dX10_addBus_84 rfl ?_
          refine a_iast (o := 43) (N := 4) nb C dX10_addBus_85 rfl (by omega) (by omega) (by decide) ?_
          obtain ⟨g4, eg4⟩ : ∃ F : Nat → Nat → Int, F = ii_up g3 43 nb c0 := ⟨_, rfl⟩
          rw [← eg4]
          refine a_aload_n C dX10_addBus_86 rfl ?_
          refine a_get (ci := 11) (i := 4) (v := .ref (ad 44)) C iw_X10 rfl (by decide) rfl fl_X10_19 rfl rfl dX10_addBus_87 ?_
          refine a_aload_n C dX10_addBus_90 rfl ?_
          refine a_get (ci := 11) (i := 29) (v := ii_v (g4 40 29)) C iw_X10 rfl (by decide) rfl fl_X10_117 rfl rfl dX10_addBus_91 ?_
          refine a_top (w := ii_v (f 40 29)) (congrArg (fun q => ii_v q) (show g4 40 29 = (f 40 29) by rw [eg4, ii_up_o _ _ _ (by omega), eg3, ii_up_o _ _ _ (by omega), eg2, ii_up_o _ _ _ (by omega), eg1, ii_up_k _ _ (by first | decide | omega)])) ?_
          refine a_top (w := ii_v ((nb : Nat) : Int)) (congrArg (fun q => ii_v q) hnb) ?_
          refine a_iload_n C dX10_addBus_94 rfl ?_
          refine a_iast (o := 44) (N := 4) nb C dX10_addBus_95 rfl (by omega) (by omega) (by decide) ?_
          obtain ⟨g5, eg5⟩ : ∃ F : Nat → Nat → Int, F = ii_up g4 44 nb x := ⟨_, rfl⟩
          rw [← eg5]
          refine a_aload_n C dX10_addBus_96 rfl ?_
          refine a_get (ci := 11) (i := 5) (v := .ref (ad 45)) C iw_X10 rfl (by decide) rfl fl_X10_22 rfl rfl dX10_addBus_97 ?_
          refine a_aload_n C dX10_addBus_100 rfl ?_
          refine a_get (ci := 11) (i := 29) (v := ii_v (g5 40 29)) C iw_X10 rfl (by decide) rfl fl_X10_117 rfl rfl dX10_addBus_101 ?_
          refine a_top (w := ii_v (f 40 29)) (congrArg (fun q => ii_v q) (show g5 40 29 = (f 40 29) by rw [eg5, ii_up_o _ _ _ (by omega), eg4, ii_up_o _ _ _ (by omega), eg3, ii_up_o _ _ _ (by omega), eg2, ii_up_o _ _ _ (by omega), eg1, ii_up_k _ _ (by first | decide | omega)])) ?_
          refine a_top (w := ii_v ((nb : Nat) : Int)) (congrArg (fun q => ii_v q) hnb) ?_
          refine a_iload C dX10_addBus_104 rfl ?_
          refine a_iast (o := 45) (N := 4) nb C dX10_addBus_106 rfl (by omega) (by omega) (by decide) ?_
          obtain ⟨g6, eg6⟩ : ∃ F : Nat → Nat → Int, F = ii_up g5 45 nb y := ⟨_, rfl⟩
          rw [← eg6]
          refine a_aload_n C dX10_addBus_107 rfl ?_
          refine a_get (ci := 11) (i := 6) (v := .ref (ad 46)) C iw_X10 rfl (by decide) rfl fl_X10_25 rfl rfl dX10_addBus_108 ?_
          refine a_aload_n C dX10_addBus_111 rfl ?_
          refine a_get (ci := 11) (i := 29) (v := ii_v (g6 40 29)) C iw_X10 rfl (by decide) rfl fl_X10_117 rfl rfl dX10_addBus_112 ?_
          refine a_top (w := ii_v (f 40 29)) (congrArg (fun q => ii_v q) (show g6 40 29 = (f 40 29) by rw [eg6, ii_up_o _ _ _ (by omega), eg5, ii_up_o _ _ _ (by omega), eg4, ii_up_o _ _ _ (by omega), eg3, ii_up_o _ _ _ (by omega), eg2, ii_up_o _ _ _ (by omega), eg1, ii_up_k _ _ (by first | decide | omega)])) ?_
          refine a_top (w := ii_v ((nb : Nat) : Int)) (congrArg (fun q => ii_v q) hnb) ?_
          refine a_iload_n C dX10_addBus_115 rfl ?_
          refine a_iast (o := 46) (N := 4) nb C dX10_addBus_116 rfl (by omega) (by omega) (by decide) ?_
          obtain ⟨g7, eg7⟩ : ∃ F : Nat → Nat → Int, F = ii_up g6 46 nb x := ⟨_, rfl⟩
          rw [← eg7]
          refine a_aload_n C dX10_addBus_117 rfl ?_
          refine a_get (ci := 11) (i := 7) (v := .ref (ad 47)) C iw_X10 rfl (by decide) rfl fl_X10_28 rfl rfl dX10_addBus_118 ?_
          refine a_aload_n C dX10_addBus_121 rfl ?_
          refine a_get (ci := 11) (i := 29) (v := ii_v (g7 40 29)) C iw_X10 rfl (by decide) rfl fl_X10_117 rfl rfl dX10_addBus_122 ?_
          refine a_top (w := ii_v (f 40 29)) (congrArg (fun q => ii_v q) (show g7 40 29 = (f 40 29) by rw [eg7, ii_up_o _ _ _ (by omega), eg6, ii_up_o _ _ _ (by omega), eg5, ii_up_o _ _ _ (by omega), eg4, ii_up_o _ _ _ (by omega), eg3, ii_up_o _ _ _ (by omega), eg2, ii_up_o _ _ _ (by omega), eg1, ii_up_k _ _ (by first | decide | omega)])) ?_
          refine a_top (w := ii_v ((nb : Nat) : Int)) (congrArg (fun q => ii_v q) hnb) ?_
          refine a_iload C dX10_addBus_125 rfl ?_
          refine a_iast (o := 47) (N := 4) nb C dX10_addBus_127 rfl (by omega) (by omega) (by decide) ?_
          obtain ⟨g8, eg8⟩ : ∃ F : Nat → Nat → Int, F = ii_up g7 47 nb y := ⟨_, rfl⟩
          rw [← eg8]
          refine a_aload_n C dX10_addBus_128 rfl ?_
          refine a_dup C dX10_addBus_129 rfl ?_
          refine a_get (ci := 11) (i := 29) (v := ii_v (g8 40 29)) C iw_X10 rfl (by decide) rfl fl_X10_117 rfl rfl dX10_addBus_130 ?_
          refine a_top (w := ii_v (f 40 29)) (congrArg (fun q => ii_v q) (show g8 40 29 = (f 40 29) by rw [eg8, ii_up_o _ _ _ (by omega), eg7, ii_up_o _ _ _ (by omega), eg6, ii_up_o _ _ _ (by omega), eg5, ii_up_o _ _ _ (by omega), eg4, ii_up_o _ _ _ (by omega), eg3, ii_up_o _ _ _ (by omega), eg2, ii_up_o _ _ _ (by omega), eg1, ii_up_k _ _ (by first | decide | omega)])) ?_
          refine a_top (w := ii_v ((nb : Nat) : Int)) (congrArg (fun q => ii_v q) hnb) ?_
          refine a_iconst C dX10_addBus_133 ?_
          refine a_iadd C dX10_addBus_134 ?_
          refine a_put (ci := 11) (i := 29) C iw_X10 rfl (by decide) rfl tyX10 tyX10_ok nmX10 rfl rfl fl_X10_117 rfl rfl rfl rfl dX10_addBus_135 ?_
          obtain ⟨g9, eg9⟩ : ∃ F : Nat → Nat → Int, F = ii_up g8 40 29 (((nb : Nat) : Int) + 1) := ⟨_, rfl⟩
          rw [← eg9]
          refine a_aload_n C dX10_addBus_138 rfl ?_
          refine a_get (ci := 11) (i := 29) (v := ii_v (g9 40 29)) C iw_X10 rfl (by decide) rfl fl_X10_117 rfl rfl dX10_addBus_139 ?_
          refine a_top (w := ii_v (((nb : Nat) : Int) + 1)) (congrArg (fun q => ii_v q) (show g9 40 29 = (((nb : Nat) : Int) + 1) by rw [eg9, ii_up_s])) ?_
          refine a_iconst C dX10_addBus_142 ?_
          refine a_isub C dX10_addBus_143 ?_
          refine a_iret C ?_ (by decide) (by decide) dX10_addBus_144
          rw [hPost]
          subst eg9 eg8 eg7 eg6 eg5 eg4 eg3 eg2 eg1
          exact ⟨rt_i (by omega), rfl, rfl, by first | rfl | (simp only [ii_up_up])⟩
        · skip
          omega
      · skip
        exact absurd ⟨ha3, ha4⟩ h33
