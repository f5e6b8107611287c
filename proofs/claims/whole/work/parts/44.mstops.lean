/-! The model: the stops at a place are made. -/
def mm_T (f : Nat → Nat → Int) (b q : Nat) : Nat → Nat → Int :=
  ii_up (ii_up (ii_up (ii_up (ii_up (if q % 2 = 0 then ii_up (ii_up f 63 (q / 2) 114) 61 (q / 2) (f 40 32) else ii_up (ii_up f 63 (q / 2) 100) 62 (q / 2) (f 40 32)) 65 (f 40 31).toNat ((b : Nat) : Int)) 66 (f 40 31).toNat ((q / 2 : Nat) : Int)) 67 (f 40 31).toNat (f 40 32)) 68 (f 40 31).toNat (f 48 b)) 40 31 (f 40 31 + 1)
def mm_D (f : Nat → Nat → Int) (b : Nat) (S : List Nat) : Nat → Nat → Int := S.foldl (fun g q => mm_T g b q) f
section MM
variable {f g v : Nat → Nat → Int} {b q o i : Nat}
theorem mm_row (h : o ≠ 40 ∧ (o < 61 ∨ 63 < o) ∧ (o < 65 ∨ 68 < o)) : mm_T f b q o = f o := by
  unfold mm_T
  rw [ii_up_row _ _ (by omega), ii_up_row _ _ (by omega), ii_up_row _ _ (by omega), ii_up_row _ _ (by omega), ii_up_row _ _ (by omega)]
  split
  · rw [ii_up_row _ _ (by omega), ii_up_row _ _ (by omega)]
  · rw [ii_up_row _ _ (by omega), ii_up_row _ _ (by omega)]
theorem mm_40 (h : i ≠ 31) : mm_T f b q 40 i = f 40 i := by
  unfold mm_T
  rw [ii_up_k _ _ h, ii_up_o _ _ _ (by decide), ii_up_o _ _ _ (by decide), ii_up_o _ _ _ (by decide), ii_up_o _ _ _ (by decide)]
  split
  · rw [ii_up_o _ _ _ (by decide), ii_up_o _ _ _ (by decide)]
  · rw [ii_up_o _ _ _ (by decide), ii_up_o _ _ _ (by decide)]
theorem mm_31 : mm_T f b q 40 31 = f 40 31 + 1 := ii_up_s _ _ _ _
theorem mm_cong (h40 : g 40 = f 40) (h48 : g 48 = f 48) (h : g o = f o) : mm_T g b q o = mm_T f b q o := by
  unfold mm_T
  rw [h40, h48]
  refine up_cong (up_cong (up_cong (up_cong (up_cong ?_))))
  split
  · exact up_cong (up_cong h)
  · exact up_cong (up_cong h)
theorem mm_61 : mm_T f b q 61 i = if i = q / 2 ∧ q % 2 = 0 then f 40 32 else f 61 i := by
  unfold mm_T
  rw [ii_up_o _ _ _ (by decide), ii_up_o _ _ _ (by decide), ii_up_o _ _ _ (by decide), ii_up_o _ _ _ (by decide), ii_up_o _ _ _ (by decide)]
  by_cases h : q % 2 = 0
  · rw [if_pos h]
    by_cases hi : i = q / 2
    · rw [if_pos ⟨hi, h⟩, hi, ii_up_s]
    · rw [if_neg (fun z => hi z.1), ii_up_k _ _ hi, ii_up_o _ _ _ (by decide)]
  · rw [if_neg h, if_neg (fun z => h z.2), ii_up_o _ _ _ (by decide), ii_up_o _ _ _ (by decide)]
theorem mm_pj (hnow : 0 ≤ f 40 32 ∧ f 40 32 ≤ 100000) (h : pj_C f v) : pj_C (mm_T f b q) (va_f v q (f 40 32)) := by
  refine ⟨fun q2 h2 => ?_, fun r hr => ?_⟩
  · have h1 := h.1 q2 h2
    unfold pj_x pj_y at h1 ⊢
    rw [mm_row (by decide), mm_row (by decide), mm_row (by decide), mm_row (by decide)]
    exact h1
  · have h1 := h.2 r hr
    rw [mm_row (by decide), mm_row (by decide), mm_row (by decide), mm_61]
    obtain ⟨p1, p2, p3, p4, p5, p6, p7, p8⟩ := h1
    refine ⟨p1, p2, p3, ?_, p5, p6, p7, ?_⟩
    · unfold va_f
      by_cases hq : r = q / 2 ∧ q % 2 = 0
      · rw [if_pos hq, if_pos ⟨rfl, hq⟩]
      · rw [if_neg hq, if_neg (fun z => hq z.2)]
        exact p4
    · unfold va_f
      split
      · exact hnow
      · exact p8
theorem mm_take {S : List Nat} {k : Nat} (hk : k < S.length) : mm_D f b (S.take (k + 1)) = mm_T (mm_D f b (S.take k)) b (S.getD k 0) := by
  unfold mm_D
  rw [List.take_add_one, List.foldl_append, List.getD_eq_getElem?_getD, List.getElem?_eq_getElem hk]
  rfl
end MM
set_option maxRecDepth 20000 in
set_option maxHeartbeats 2000000 in
theorem m_stopsAt {l : Launch} {E : ab_E} {base : Nat} (hl : l.stackTraces = false) {ad : Nat → Nat} (f : Nat → Nat → Int) (w : Nat × Nat × Int64 × UInt64) (b : Nat) (hb : b < 4) {v : Nat → Nat → Int} (hv : pj_C f v) (hB : pk_B f b) {S : List Nat} (hS : mt_I f b S) (hS6 : S.length ≤ 6) (hq : ∀ j, j < S.length → S.getD j 0 / 2 ≤ 30) (hnow : 0 ≤ f 40 32 ∧ f 40 32 ≤ 100000) (e0 : Nat) (he : f 40 31 = (e0 : Int)) (h60 : e0 + S.length ≤ 60)  : ab_M l E base yX10_stopsAt cX10_stopsAt 6 (some .int) 3 0 0 [.ref (ad 40), ii_v ((b : Nat) : Int)] ab_x4 ad (f, w) (ab_F ad w (fun ov g => ov = some (ii_v (((du_n v (f 44 b) (f 45 b) S) : Nat) : Int)) ∧ mt_I g b (S.drop (du_n v (f 44 b) (f 45 b) S)) ∧ (∀ o2, o2 ≠ 51 → o2 ≠ 52 → g o2 = mm_D f b (S.take (du_n v (f 44 b) (f 45 b) S)) o2) ∧ (∀ i, i ≠ b → g 51 i = f 51 i) ∧ ∀ i, i < 8 * b ∨ 8 * b + 8 ≤ i → g 52 i = f 52 i)) := by
  obtain ⟨Post, hPost⟩ : ∃ P : ab_P, P = (ab_F ad w (fun ov g => ov = some (ii_v (((du_n v (f 44 b) (f 45 b) S) : Nat) : Int)) ∧ mt_I g b (S.drop (du_n v (f 44 b) (f 45 b) S)) ∧ (∀ o2, o2 ≠ 51 → o2 ≠ 52 → g o2 = mm_D f b (S.take (du_n v (f 44 b) (f 45 b) S)) o2) ∧ (∀ i, i ≠ b → g 51 i = f 51 i) ∧ ∀ i, i < 8 * b ∨ 8 * b + 8 ≤ i → g 52 i = f 52 i)) := ⟨_, rfl⟩
  rw [← hPost]
  refine ab_of RX10 [(0, .ref (ad 40)), (1, ii_v ((b : Nat) : Int))] hl (by decide) rfl (Nat.le_of_ble_eq_true rfl) rfl ?_
  intro p e s m args below meth c C T0 hnm
  obtain ⟨hc, h8, hj8, hb64⟩ := id hS
  obtain ⟨hB1, hB6, hB7, hB4, hB5, hB8⟩ := id hB
  refine a_iconst C dX10_stopsAt_0 ?_
  refine a_istore_n (L' := [(0, .ref (ad 40)), (1, ii_v ((b : Nat) : Int)), (2, ii_v 0)]) C dX10_stopsAt_1 (by decide) rfl ?_
  have loop2 : ∀ (NN2 : Nat) (k : Nat) (g : Nat → Nat → Int) (v2 : Nat → Nat → Int), S.length - k < NN2 → (k ≤ S.length) → (mt_I g b (S.drop k)) → ((du_n v (f 44 b) (f 45 b) S) = k + du_n v (f 44 b) (f 45 b) (S.drop k)) → (∀ o2, o2 ≠ 51 → o2 ≠ 52 → g o2 = mm_D f b (S.take k) o2) → (g 40 31 = ((e0 + k : Nat) : Int)) → (∀ o2, 41 ≤ o2 ∧ o2 ≤ 50 → g o2 = f o2) → (g 40 32 = f 40 32) → (pj_C g v2) → (∀ q, v2 0 q = v 0 q ∧ v2 1 q = v 1 q) → (∀ i, i ≠ b → g 51 i = f 51 i) → (∀ i, i < 8 * b ∨ 8 * b + 8 ≤ i → g 52 i = f 52 i) → ab_W p l e (ab_rm 3 0 0) s m args below meth c E base 6 (ab_Q below E base Post args s 0 0) ab_x4 ad (g, w) 0 0 2 [(0, .ref (ad 40)), (1, ii_v ((b : Nat) : Int)), (2, ii_v ((k : Nat) : Int))] [] := by
    intro NN2
    induction NN2 with
    | zero => intro k g v2 hNN; exact absurd hNN (Nat.not_lt_zero _)
    | succ NN2 ih2 =>
      intro k g v2 hNN hk hSk hdue hfr hge hgr ht hvg hv0 hx51 hx52
      refine a_aload_n C dX10_stopsAt_2 rfl ?_
      refine a_get (ci := 11) (i := 11) (v := .ref (ad 51)) C iw_X10 rfl (by decide) rfl fl_X10_40 rfl rfl dX10_stopsAt_3 ?_
      refine a_iload_n C dX10_stopsAt_6 rfl ?_
      refine a_iald (o := 51) (N := 4) b C dX10_stopsAt_7 rfl (by omega) (by omega) (by decide) ?_
      refine a_top (w := ii_v (g 51 b)) rfl ?_
      refine a_top (w := ii_v ((S.length - k : Nat) : Int)) (congrArg (fun q => ii_v q) (hSk.1.trans (by rw [List.length_drop]))) ?_
      refine a_if_le (tgt := 244) C dX10_stopsAt_8 rfl (by unfold ii_B; omega) (fun h8 => ?_) (fun h8 => ?_)
      · skip
        refine a_iload_n C dX10_stopsAt_244 rfl ?_
        refine a_iret C ?_ (by decide) (by decide) dX10_stopsAt_245
        rw [hPost]
        have hdn : (du_n v (f 44 b) (f 45 b) S) = k := by first | (rw [hdue, hdr, du_n, if_neg hdz]; rfl) | (rw [hdue, List.drop_eq_nil_of_le (by omega)]; rfl)
        rw [hdn]
        exact ab_F_of ⟨rfl, hSk, hfr, hx51, hx52⟩
      · skip
        have hkl : k < S.length := by omega
        obtain ⟨q, hqe⟩ : ∃ q, S.getD k 0 = q := ⟨_, rfl⟩
        have hdr : S.drop k = q :: S.drop (k + 1) := by rw [← hqe]; exact ls_drop hkl
        have hSq : mt_I g b (q :: S.drop (k + 1)) := by rw [← hdr]; exact hSk
        have hqn : q / 2 ≤ 30 := by rw [← hqe]; exact hq k hkl
        have hq64 : q < 64 := by rw [← hqe]; exact hb64 k hkl
        have qv := hv.1 q hqn
        refine a_aload_n C dX10_stopsAt_11 rfl ?_
        refine a_aload_n C dX10_stopsAt_12 rfl ?_
        refine a_get (ci := 11) (i := 12) (v := .ref (ad 52)) C iw_X10 rfl (by decide) rfl fl_X10_43 rfl rfl dX10_stopsAt_13 ?_
        refine a_bipush C dX10_stopsAt_16 (by decide) ?_
        refine a_iload_n C dX10_stopsAt_18 rfl ?_
        refine a_imul C dX10_stopsAt_19 ?_
        refine a_iald (o := 52) (N := 32) (8 * b) C dX10_stopsAt_20 rfl (by omega) (by omega) (by decide) ?_
        refine a_top (w := ii_v (g 52 (8 * b))) rfl ?_
        refine a_top (w := ii_v ((q : Nat) : Int)) (congrArg (fun q => ii_v q) (hSq.2.2.1 0 (Nat.zero_lt_succ _))) ?_
        refine a_callV (o := 40) (As := [ii_v ((q : Nat) : Int)]) C (m_stopX hl g w hvg q hqn) co_X10_stopX in_X10 ml_X10_147 im_X10_stopX se_X10_stopX rfl rfl ar_X10_stopX ⟨by decide, by decide, by decide, by decide⟩ rfl (Nat.le_of_ble_eq_true rfl) dX10_stopsAt_21 (a_dR ?_) a_nR
        rw [(hv0 q).1]
        refine a_aload_n C dX10_stopsAt_24 rfl ?_
        refine a_get (ci := 11) (i := 4) (v := .ref (ad 44)) C iw_X10 rfl (by decide) rfl fl_X10_19 rfl rfl dX10_stopsAt_25 ?_
        refine a_iload_n C dX10_stopsAt_28 rfl ?_
        refine a_iald (o := 44) (N := 4) b C dX10_stopsAt_29 rfl (by omega) (by omega) (by decide) ?_
        refine a_top (w := ii_v (g 44 b)) rfl ?_
        refine a_top (w := ii_v (f 44 b)) (congrArg (fun q => ii_v q) (congrFun (hgr 44 (by decide)) b)) ?_
        refine a_icmp_ne (tgt := 244) C dX10_stopsAt_30 rfl (by unfold ii_B; omega) (by unfold ii_B; omega) (fun h30 => ?_) (fun h30 => ?_)
        · skip
          have hdz : ¬ pd_d (f 44 b) (f 45 b) (v 0 q) (v 1 q) ≤ 0 := by unfold pd_d; omega
          refine a_iload_n C dX10_stopsAt_244 rfl ?_
          refine a_iret C ?_ (by decide) (by decide) dX10_stopsAt_245
          rw [hPost]
          have hdn : (du_n v (f 44 b) (f 45 b) S) = k := by first | (rw [hdue, hdr, du_n, if_neg hdz]; rfl) | (rw [hdue, List.drop_eq_nil_of_le (by omega)]; rfl)
          rw [hdn]
          exact ab_F_of ⟨rfl, hSk, hfr, hx51, hx52⟩
        · skip
          refine a_aload_n C dX10_stopsAt_33 rfl ?_
          refine a_aload_n C dX10_stopsAt_34 rfl ?_
          refine a_get (ci := 11) (i := 12) (v := .ref (ad 52)) C iw_X10 rfl (by decide) rfl fl_X10_43 rfl rfl dX10_stopsAt_35 ?_
          refine a_bipush C dX10_stopsAt_38 (by decide) ?_
          refine a_iload_n C dX10_stopsAt_40 rfl ?_
          refine a_imul C dX10_stopsAt_41 ?_
          refine a_iald (o := 52) (N := 32) (8 * b) C dX10_stopsAt_42 rfl (by omega) (by omega) (by decide) ?_
          refine a_top (w := ii_v (g 52 (8 * b))) rfl ?_
          refine a_top (w := ii_v ((q : Nat) : Int)) (congrArg (fun q => ii_v q) (hSq.2.2.1 0 (Nat.zero_lt_succ _))) ?_
          refine a_callV (o := 40) (As := [ii_v ((q : Nat) : Int)]) C (m_stopY hl g w hvg q hqn) co_X10_stopY in_X10 ml_X10_150 im_X10_stopY se_X10_stopY rfl rfl ar_X10_stopY ⟨by decide, by decide, by decide, by decide⟩ rfl (Nat.le_of_ble_eq_true rfl) dX10_stopsAt_43 (a_dR ?_) a_nR
          rw [(hv0 q).2]
          refine a_aload_n C dX10_stopsAt_46 rfl ?_
          refine a_get (ci := 11) (i := 5) (v := .ref (ad 45)) C iw_X10 rfl (by decide) rfl fl_X10_22 rfl rfl dX10_stopsAt_47 ?_
          refine a_iload_n C dX10_stopsAt_50 rfl ?_
          refine a_iald (o := 45) (N := 4) b C dX10_stopsAt_51 rfl (by omega) (by omega) (by decide) ?_
          refine a_top (w := ii_v (g 45 b)) rfl ?_
          refine a_top (w := ii_v (f 45 b)) (congrArg (fun q => ii_v q) (congrFun (hgr 45 (by decide)) b)) ?_
          refine a_icmp_ne (tgt := 244) C dX10_stopsAt_52 rfl (by unfold ii_B; omega) (by unfold ii_B; omega) (fun h52 => ?_) (fun h52 => ?_)
          · skip
            have hdz : ¬ pd_d (f 44 b) (f 45 b) (v 0 q) (v 1 q) ≤ 0 := by unfold pd_d; omega
            refine a_iload_n C dX10_stopsAt_244 rfl ?_
            refine a_iret C ?_ (by decide) (by decide) dX10_stopsAt_245
            rw [hPost]
            have hdn : (du_n v (f 44 b) (f 45 b) S) = k := by first | (rw [hdue, hdr, du_n, if_neg hdz]; rfl) | (rw [hdue, List.drop_eq_nil_of_le (by omega)]; rfl)
            rw [hdn]
            exact ab_F_of ⟨rfl, hSk, hfr, hx51, hx52⟩
          · skip
            have hdz : pd_d (f 44 b) (f 45 b) (v 0 q) (v 1 q) ≤ 0 := by unfold pd_d; omega
            refine a_aload_n C dX10_stopsAt_55 rfl ?_
            refine a_get (ci := 11) (i := 12) (v := .ref (ad 52)) C iw_X10 rfl (by decide) rfl fl_X10_43 rfl rfl dX10_stopsAt_56 ?_
            refine a_bipush C dX10_stopsAt_59 (by decide) ?_
            refine a_iload_n C dX10_stopsAt_61 rfl ?_
            refine a_imul C dX10_stopsAt_62 ?_
            refine a_iald (o := 52) (N := 32) (8 * b) C dX10_stopsAt_63 rfl (by omega) (by omega) (by decide) ?_
            refine a_top (w := ii_v (g 52 (8 * b))) rfl ?_
            refine a_top (w := ii_v ((q : Nat) : Int)) (congrArg (fun q => ii_v q) (hSq.2.2.1 0 (Nat.zero_lt_succ _))) ?_
            refine a_istore_n (L' := [(0, .ref (ad 40)), (1, ii_v ((b : Nat) : Int)), (2, ii_v ((k : Nat) : Int)), (3, ii_v ((q : Nat) : Int))]) C dX10_stopsAt_64 (by decide) rfl ?_
            refine a_iload_n C dX10_stopsAt_65 rfl ?_
            refine a_iconst C dX10_stopsAt_66 ?_
            refine a_idiv C dX10_stopsAt_67 (by omega) (by omega) ?_
            refine a_istore (L' := [(0, .ref (ad 40)), (1, ii_v ((b : Nat) : Int)), (2, ii_v ((k : Nat) : Int)), (3, ii_v ((q : Nat) : Int)), (4, ii_v (((q : Nat) : Int) / 2))]) C dX10_stopsAt_68 (by decide) rfl ?_
            refine a_aload_n C dX10_stopsAt_70 rfl ?_
            refine a_get (ci := 11) (i := 23) (v := .ref (ad 63)) C iw_X10 rfl (by decide) rfl fl_X10_76 rfl rfl dX10_stopsAt_71 ?_
            refine a_iload C dX10_stopsAt_74 rfl ?_
            refine a_iload_n C dX10_stopsAt_76 rfl ?_
            refine a_callS (As := [ii_v ((q : Nat) : Int)]) C (m_isDrop hl g w q (by omega)) co_X10_isDrop in_X10 ml_X10_135 sc_X10_isDrop ar_X10_isDrop ⟨by decide, by decide, by decide, by decide⟩ rfl (Nat.le_of_ble_eq_true rfl) dX10_stopsAt_77 (a_dR ?_) a_nR
            rw [md_iff (P := q % 2 = 0)]
            refine a_bif_eq (tgt := 88) C dX10_stopsAt_80 rfl (fun h80 => ?_) (fun h80 => ?_)
            · skip
              refine a_bipush C dX10_stopsAt_88 (by decide) ?_
              refine a_cast (o := 63) (N := 31) (q / 2) C dX10_stopsAt_90 rfl (by omega) (by omega) (by decide) (by decide) ?_
              obtain ⟨g1, eg1⟩ : ∃ F : Nat → Nat → Int, F = ii_up g 63 (q / 2) 114 := ⟨_, rfl⟩
              rw [← eg1]
              refine a_iload_n C dX10_stopsAt_91 rfl ?_
              refine a_callS (As := [ii_v ((q : Nat) : Int)]) C (m_isDrop hl g1 w q (by omega)) co_X10_isDrop in_X10 ml_X10_135 sc_X10_isDrop ar_X10_isDrop ⟨by decide, by decide, by decide, by decide⟩ rfl (Nat.le_of_ble_eq_true rfl) dX10_stopsAt_92 (a_dR ?_) a_nR
              rw [md_iff (P := q % 2 = 0)]
              refine a_bif_eq (tgt := 112) C dX10_stopsAt_95 rfl (fun h95 => ?_) (fun h95 => ?_)
              · skip
                refine a_aload_n C dX10_stopsAt_112 rfl ?_
                refine a_get (ci := 11) (i := 21) (v := .ref (ad 61)) C iw_X10 rfl (by decide) rfl fl_X10_70 rfl rfl dX10_stopsAt_113 ?_
                refine a_iload C dX10_stopsAt_116 rfl ?_
                refine a_aload_n C dX10_stopsAt_118 rfl ?_
                refine a_get (ci := 11) (i := 32) (v := ii_v (g1 40 32)) C iw_X10 rfl (by decide) rfl fl_X10_157 rfl rfl dX10_stopsAt_119 ?_
                refine a_top (w := ii_v (g 40 32)) (congrArg (fun q => ii_v q) (show g1 40 32 = (g 40 32) by rw [eg1, ii_up_o _ _ _ (by omega)])) ?_
                refine a_top (w := ii_v (f 40 32)) (congrArg (fun q => ii_v q) ht) ?_
                refine a_iast (o := 61) (N := 31) (q / 2) C dX10_stopsAt_122 rfl (by omega) (by omega) (by decide) ?_
                obtain ⟨g2, eg2⟩ : ∃ F : Nat → Nat → Int, F = ii_up g1 61 (q / 2) (f 40 32) := ⟨_, rfl⟩
                rw [← eg2]
                refine a_aload_n C dX10_stopsAt_123 rfl ?_
                refine a_get (ci := 11) (i := 25) (v := .ref (ad 65)) C iw_X10 rfl (by decide) rfl fl_X10_83 rfl rfl dX10_stopsAt_124 ?_
                refine a_aload_n C dX10_stopsAt_127 rfl ?_
                refine a_get (ci := 11) (i := 31) (v := ii_v (g2 40 31)) C iw_X10 rfl (by decide) rfl fl_X10_202 rfl rfl dX10_stopsAt_128 ?_
                refine a_top (w := ii_v (g 40 31)) (congrArg (fun q => ii_v q) (show g2 40 31 = (g 40 31) by rw [eg2, ii_up_o _ _ _ (by omega), eg1, ii_up_o _ _ _ (by omega)])) ?_
                refine a_top (w := ii_v ((e0 + k : Nat) : Int)) (congrArg (fun q => ii_v q) hge) ?_
                refine a_iload_n C dX10_stopsAt_131 rfl ?_
                refine a_iast (o := 65) (N := 60) (e0 + k) C dX10_stopsAt_132 rfl (by omega) (by omega) (by decide) ?_
                obtain ⟨g3, eg3⟩ : ∃ F : Nat → Nat → Int, F = ii_up g2 65 (e0 + k) ((b : Nat) : Int) := ⟨_, rfl⟩
                rw [← eg3]
                refine a_aload_n C dX10_stopsAt_133 rfl ?_
                refine a_get (ci := 11) (i := 26) (v := .ref (ad 66)) C iw_X10 rfl (by decide) rfl fl_X10_86 rfl rfl dX10_stopsAt_134 ?_
                refine a_aload_n C dX10_stopsAt_137 rfl ?_
                refine a_get (ci := 11) (i := 31) (v := ii_v (g3 40 31)) C iw_X10 rfl (by decide) rfl fl_X10_202 rfl rfl dX10_stopsAt_138 ?_
                refine a_top (w := ii_v (g 40 31)) (congrArg (fun q => ii_v q) (show g3 40 31 = (g 40 31) by rw [eg3, ii_up_o _ _ _ (by omega), eg2, ii_up_o _ _ _ (by omega), eg1, ii_up_o _ _ _ (by omega)])) ?_
                refine a_top (w := ii_v ((e0 + k : Nat) : Int)) (congrArg (fun q => ii_v q) hge) ?_
                refine a_iload C dX10_stopsAt_141 rfl ?_
                refine a_iast (o := 66) (N := 60) (e0 + k) C dX10_stopsAt_143 rfl (by omega) (by omega) (by decide) ?_
                obtain ⟨g4, eg4⟩ : ∃ F : Nat → Nat → Int, F = ii_up g3 66 (e0 + k) (((q : Nat) : Int) / 2) := ⟨_, rfl⟩
                rw [← eg4]
                refine a_aload_n C dX10_stopsAt_144 rfl ?_
                refine a_get (ci := 11) (i := 27) (v := .ref (ad 67)) C iw_X10 rfl (by decide) rfl fl_X10_89 rfl rfl dX10_stopsAt_145 ?_
                refine a_aload_n C dX10_stopsAt_148 rfl ?_
                refine a_get (ci := 11) (i := 31) (v := ii_v (g4 40 31)) C iw_X10 rfl (by decide) rfl fl_X10_202 rfl rfl dX10_stopsAt_149 ?_
                refine a_top (w := ii_v (g 40 31)) (congrArg (fun q => ii_v q) (show g4 40 31 = (g 40 31) by rw [eg4, ii_up_o _ _ _ (by omega), eg3, ii_up_o _ _ _ (by omega), eg2, ii_up_o _ _ _ (by omega), eg1, ii_up_o _ _ _ (by omega)])) ?_
                refine a_top (w := ii_v ((e0 + k : Nat) : Int)) (congrArg (fun q => ii_v q) hge) ?_
                refine a_aload_n C dX10_stopsAt_152 rfl ?_
                refine a_get (ci := 11) (i := 32) (v := ii_v (g4 40 32)) C iw_X10 rfl (by decide) rfl fl_X10_157 rfl rfl dX10_stopsAt_153 ?_
                refine a_top (w := ii_v (g 40 32)) (congrArg (fun q => ii_v q) (show g4 40 32 = (g 40 32) by rw [eg4, ii_up_o _ _ _ (by omega), eg3, ii_up_o _ _ _ (by omega), eg2, ii_up_o _ _ _ (by omega), eg1, ii_up_o _ _ _ (by omega)])) ?_
                refine a_top (w := ii_v (f 40 32)) (congrArg (fun q => ii_v q) ht) ?_
                refine a_iast (o := 67) (N := 60) (e0 + k) C dX10_stopsAt_156 rfl (by omega) (by omega) (by decide) ?_
                obtain ⟨g5, eg5⟩ : ∃ F : Nat → Nat → Int, F = ii_up g4 67 (e0 + k) (f 40 32) := ⟨_, rfl⟩
                rw [← eg5]
                refine a_aload_n C dX10_stopsAt_157 rfl ?_
                refine a_get (ci := 11) (i := 28) (v := .ref (ad 68)) C iw_X10 rfl (by decide) rfl fl_X10_92 rfl rfl dX10_stopsAt_158 ?_
                refine a_aload_n C dX10_stopsAt_161 rfl ?_
                refine a_get (ci := 11) (i := 31) (v := ii_v (g5 40 31)) C iw_X10 rfl (by decide) rfl fl_X10_202 rfl rfl dX10_stopsAt_162 ?_
                refine a_top (w := ii_v (g 40 31)) (congrArg (fun q => ii_v q) (show g5 40 31 = (g 40 31) by rw [eg5, ii_up_o _ _ _ (by omega), eg4, ii_up_o _ _ _ (by omega), eg3, ii_up_o _ _ _ (by omega), eg2, ii_up_o _ _ _ (by omega), eg1, ii_up_o _ _ _ (by omega)])) ?_
                refine a_top (w := ii_v ((e0 + k : Nat) : Int)) (congrArg (fun q => ii_v q) hge) ?_
                refine a_aload_n C dX10_stopsAt_165 rfl ?_
                refine a_get (ci := 11) (i := 8) (v := .ref (ad 48)) C iw_X10 rfl (by decide) rfl fl_X10_31 rfl rfl dX10_stopsAt_166 ?_
                refine a_iload_n C dX10_stopsAt_169 rfl ?_
                refine a_iald (o := 48) (N := 4) b C dX10_stopsAt_170 rfl (by omega) (by omega) (by decide) ?_
                refine a_top (w := ii_v (g5 48 b)) rfl ?_
                refine a_top (w := ii_v (g 48 b)) (congrArg (fun q => ii_v q) (show g5 48 b = (g 48 b) by rw [eg5, ii_up_o _ _ _ (by omega), eg4, ii_up_o _ _ _ (by omega), eg3, ii_up_o _ _ _ (by omega), eg2, ii_up_o _ _ _ (by omega), eg1, ii_up_o _ _ _ (by omega)])) ?_
                refine a_top (w := ii_v (f 48 b)) (congrArg (fun q => ii_v q) (congrFun (hgr 48 (by decide)) b)) ?_
                refine a_iast (o := 68) (N := 60) (e0 + k) C dX10_stopsAt_171 rfl (by omega) (by omega) (by decide) ?_
                obtain ⟨g6, eg6⟩ : ∃ F : Nat → Nat → Int, F = ii_up g5 68 (e0 + k) (f 48 b) := ⟨_, rfl⟩
                rw [← eg6]
                refine a_aload_n C dX10_stopsAt_172 rfl ?_
                refine a_dup C dX10_stopsAt_173 rfl ?_
                refine a_get (ci := 11) (i := 31) (v := ii_v (g6 40 31)) C iw_X10 rfl (by decide) rfl fl_X10_202 rfl rfl dX10_stopsAt_174 ?_
                refine a_top (w := ii_v (g 40 31)) (congrArg (fun q => ii_v q) (show g6 40 31 = (g 40 31) by rw [eg6, ii_up_o _ _ _ (by omega), eg5, ii_up_o _ _ _ (by omega), eg4, ii_up_o _ _ _ (by omega), eg3, ii_up_o _ _ _ (by omega), eg2, ii_up_o _ _ _ (by omega), eg1, ii_up_o _ _ _ (by omega)])) ?_
                refine a_top (w := ii_v ((e0 + k : Nat) : Int)) (congrArg (fun q => ii_v q) hge) ?_
                refine a_iconst C dX10_stopsAt_177 ?_
                refine a_iadd C dX10_stopsAt_178 ?_
                refine a_put (ci := 11) (i := 31) C iw_X10 rfl (by decide) rfl tyX10 tyX10_ok nmX10 rfl rfl fl_X10_202 rfl rfl rfl rfl dX10_stopsAt_179 ?_
                obtain ⟨g7, eg7⟩ : ∃ F : Nat → Nat → Int, F = ii_up g6 40 31 ((((e0 + k) : Nat) : Int) + 1) := ⟨_, rfl⟩
                rw [← eg7]
                refine a_iinc (L' := [(0, .ref (ad 40)), (1, ii_v ((b : Nat) : Int)), (2, ii_v (((k : Nat) : Int) + 1)), (3, ii_v ((q : Nat) : Int)), (4, ii_v (((q : Nat) : Int) / 2))]) C dX10_stopsAt_182 rfl (by decide) rfl ?_
                refine a_aload_n C dX10_stopsAt_185 rfl ?_
                refine a_get (ci := 11) (i := 11) (v := .ref (ad 51)) C iw_X10 rfl (by decide) rfl fl_X10_40 rfl rfl dX10_stopsAt_186 ?_
                refine a_iload_n C dX10_stopsAt_189 rfl ?_
                refine a_dup2 C dX10_stopsAt_190 rfl rfl ?_
                refine a_iald (o := 51) (N := 4) b C dX10_stopsAt_191 rfl (by omega) (by omega) (by decide) ?_
                refine a_top (w := ii_v (g7 51 b)) rfl ?_
                refine a_top (w := ii_v (g 51 b)) (congrArg (fun q => ii_v q) (show g7 51 b = (g 51 b) by rw [eg7, ii_up_o _ _ _ (by omega), eg6, ii_up_o _ _ _ (by omega), eg5, ii_up_o _ _ _ (by omega), eg4, ii_up_o _ _ _ (by omega), eg3, ii_up_o _ _ _ (by omega), eg2, ii_up_o _ _ _ (by omega), eg1, ii_up_o _ _ _ (by omega)])) ?_
                refine a_top (w := ii_v ((S.length - k : Nat) : Int)) (congrArg (fun q => ii_v q) (hSk.1.trans (by rw [List.length_drop]))) ?_
                refine a_iconst C dX10_stopsAt_192 ?_
                refine a_isub C dX10_stopsAt_193 ?_
                refine a_iast (o := 51) (N := 4) b C dX10_stopsAt_194 rfl (by omega) (by omega) (by decide) ?_
                obtain ⟨g8, eg8⟩ : ∃ F : Nat → Nat → Int, F = ii_up g7 51 b ((((S.length - k) : Nat) : Int) - 1) := ⟨_, rfl⟩
                rw [← eg8]
                have hX : g7 = mm_T g b q := by
                  rw [eg7, eg6, eg5, eg4, eg3, eg2, eg1]
                  unfold mm_T
                  rw [show (g 40 31).toNat = e0 + k by omega, hge, ht, hgr 48 (by decide), show ((q / 2 : Nat) : Int) = (q : Int) / 2 by omega]
                  first | rw [if_pos (Classical.byContradiction (by assumption))] | rw [if_pos (by assumption)] | rw [if_neg (by assumption)]
                rw [hX] at eg8
                refine a_iconst C dX10_stopsAt_195 ?_
                refine a_istore (L' := [(0, .ref (ad 40)), (1, ii_v ((b : Nat) : Int)), (2, ii_v (((k : Nat) : Int) + 1)), (3, ii_v ((q : Nat) : Int)), (4, ii_v (((q : Nat) : Int) / 2)), (5, ii_v 0)]) C dX10_stopsAt_196 (by decide) rfl ?_
                have loop198 : ∀ (NN198 : Nat) (j : Nat) (g2 : Nat → Nat → Int), S.length - (k + 1) - j < NN198 → (j ≤ S.length - (k + 1)) → (∀ o2, o2 ≠ 52 → g2 o2 = g8 o2) → (∀ m, m < j → g2 52 (8 * b + m) = (((S.drop (k + 1)).getD m 0 : Nat) : Int)) → (∀ m, j ≤ m → m < (S.drop (k + 1)).length → g2 52 (8 * b + (m + 1)) = (((S.drop (k + 1)).getD m 0 : Nat) : Int)) → (∀ i, i < 8 * b ∨ 8 * b + 8 ≤ i → g2 52 i = f 52 i) → ab_W p l e (ab_rm 3 0 0) s m args below meth c E base 6 (ab_Q below E base Post args s 0 0) ab_x4 ad (g2, w) 0 0 198 [(0, .ref (ad 40)), (1, ii_v ((b : Nat) : Int)), (2, ii_v (((k : Nat) : Int) + 1)), (3, ii_v ((q : Nat) : Int)), (4, ii_v (((q : Nat) : Int) / 2)), (5, ii_v ((j : Nat) : Int))] [] := by
                  intro NN198
                  induction NN198 with
                  | zero => intro j g2 hNN; exact absurd hNN (Nat.not_lt_zero _)
                  | succ NN198 ih198 =>
                    intro j g2 hNN hj hg2 hsh hrest hx52b
                    have h512 : g2 51 b = ((S.length - (k + 1) : Nat) : Int) := by rw [hg2 51 (by decide), eg8, ii_up_s]; omega
                    refine a_iload C dX10_stopsAt_198 rfl ?_
                    refine a_aload_n C dX10_stopsAt_200 rfl ?_
                    refine a_get (ci := 11) (i := 11) (v := .ref (ad 51)) C iw_X10 rfl (by decide) rfl fl_X10_40 rfl rfl dX10_stopsAt_201 ?_
                    refine a_iload_n C dX10_stopsAt_204 rfl ?_
                    refine a_iald (o := 51) (N := 4) b C dX10_stopsAt_205 rfl (by omega) (by omega) (by decide) ?_
                    refine a_top (w := ii_v (g2 51 b)) rfl ?_
                    refine a_top (w := ii_v ((S.length - (k + 1) : Nat) : Int)) (congrArg (fun q => ii_v q) h512) ?_
                    refine a_icmp_ge (tgt := 241) C dX10_stopsAt_206 rfl (by unfold ii_B; omega) (by unfold ii_B; omega) (fun h206 => ?_) (fun h206 => ?_)
                    · skip
                      refine a_goto (tgt := 2) C dX10_stopsAt_241 rfl ?_
                      refine a_pick [0, 1, 2] (L2 := [(0, .ref (ad 40)), (1, ii_v ((b : Nat) : Int)), (2, ii_v (((k : Nat) : Int) + 1))]) rfl ?_
                      exact ih2 (k + 1) g2 (va_f v2 q (f 40 32)) (by omega) (by omega) ⟨by rw [h512, List.length_drop], by rw [List.length_drop]; omega, fun m hm => hsh m (by rw [List.length_drop] at hm; omega), fun m hm => hSq.2.2.2 (m + 1) (Nat.succ_lt_succ hm)⟩ (by rw [hdue, hdr, du_n, if_pos hdz]; omega) (fun o2 h1 h2 => by rw [hg2 o2 h2, eg8, ii_up_row _ _ h1, mm_take hkl, hqe]; exact mm_cong (hfr 40 (by decide) (by decide)) (hfr 48 (by decide) (by decide)) (hfr o2 h1 h2)) (by rw [hg2 40 (by decide), eg8, ii_up_o _ _ _ (by decide), mm_31, hge]; omega) (fun o2 h => by rw [hg2 o2 (by omega), eg8, ii_up_row _ _ (by omega), mm_row (by omega)]; exact hgr o2 h) (by rw [hg2 40 (by decide), eg8, ii_up_o _ _ _ (by decide), mm_40 (by decide)]; exact ht) (by rw [← ht]; exact pj_same (mm_pj (by rw [ht]; exact hnow) hvg) (fun o2 h => by rw [hg2 o2 (by omega), eg8, ii_up_row _ _ (by omega)])) (fun q2 => hv0 q2) (fun i hi => by rw [hg2 51 (by decide), eg8, ii_up_k _ _ hi, mm_row (by decide)]; exact hx51 i hi) hx52b
                    · skip
                      refine a_aload_n C dX10_stopsAt_209 rfl ?_
                      refine a_get (ci := 11) (i := 12) (v := .ref (ad 52)) C iw_X10 rfl (by decide) rfl fl_X10_43 rfl rfl dX10_stopsAt_210 ?_
                      refine a_bipush C dX10_stopsAt_213 (by decide) ?_
                      refine a_iload_n C dX10_stopsAt_215 rfl ?_
                      refine a_imul C dX10_stopsAt_216 ?_
                      refine a_iload C dX10_stopsAt_217 rfl ?_
                      refine a_iadd C dX10_stopsAt_219 ?_
                      refine a_aload_n C dX10_stopsAt_220 rfl ?_
                      refine a_get (ci := 11) (i := 12) (v := .ref (ad 52)) C iw_X10 rfl (by decide) rfl fl_X10_43 rfl rfl dX10_stopsAt_221 ?_
                      refine a_bipush C dX10_stopsAt_224 (by decide) ?_
                      refine a_iload_n C dX10_stopsAt_226 rfl ?_
                      refine a_imul C dX10_stopsAt_227 ?_
                      refine a_iload C dX10_stopsAt_228 rfl ?_
                      refine a_iadd C dX10_stopsAt_230 ?_
                      refine a_iconst C dX10_stopsAt_231 ?_
                      refine a_iadd C dX10_stopsAt_232 ?_
                      refine a_iald (o := 52) (N := 32) (((8 * b) + j) + 1) C dX10_stopsAt_233 rfl (by omega) (by omega) (by decide) ?_
                      refine a_top (w := ii_v (g2 52 (((8 * b) + j) + 1))) rfl ?_
                      refine a_top (w := ii_v (((S.drop (k + 1)).getD j 0 : Nat) : Int)) (congrArg (fun q => ii_v q) (hrest j (Nat.le_refl _) (by rw [List.length_drop]; omega))) ?_
                      refine a_iast (o := 52) (N := 32) ((8 * b) + j) C dX10_stopsAt_234 rfl (by omega) (by omega) (by decide) ?_
                      obtain ⟨g9, eg9⟩ : ∃ F : Nat → Nat → Int, F = ii_up g2 52 ((8 * b) + j) ((((S.drop (k + 1)).getD j 0) : Nat) : Int) := ⟨_, rfl⟩
                      rw [← eg9]
                      refine a_iinc (L' := [(0, .ref (ad 40)), (1, ii_v ((b : Nat) : Int)), (2, ii_v (((k : Nat) : Int) + 1)), (3, ii_v ((q : Nat) : Int)), (4, ii_v (((q : Nat) : Int) / 2)), (5, ii_v (((j : Nat) : Int) + 1))]) C dX10_stopsAt_235 rfl (by decide) rfl ?_
                      refine a_goto (tgt := 198) C dX10_stopsAt_238 rfl ?_
                      exact ih198 (j + 1) g9 (by omega) (by omega) (fun o2 h => by rw [eg9, ii_up_row _ _ h]; exact hg2 o2 h) (by rw [eg9]; exact lt_s (fun m h => by rw [ii_up_k _ _ (by omega)]; exact hsh m h) (ii_up_s _ _ _ _)) (fun m h1 h2 => by rw [eg9, ii_up_k _ _ (by omega)]; exact hrest m (by omega) h2) (fun i hi => by rw [eg9, ii_up_k _ _ (by omega)]; exact hx52b i hi)
                exact loop198 (_ + 1) 0 g8 (Nat.lt_succ_self _) (Nat.zero_le _) (fun _ _ => rfl) (fun m h => absurd h (Nat.not_lt_zero m)) (fun m _ hm => by rw [eg8, ii_up_o _ _ _ (by decide), mm_row (by decide)]; exact hSq.2.2.1 (m + 1) (Nat.succ_lt_succ hm)) (fun i hi => by rw [eg8, ii_up_o _ _ _ (by decide), mm_row (by decide)]; exact hx52 i hi)
              · skip
                exact absurd h95 h80
            · skip
              refine a_bipush C dX10_stopsAt_83 (by decide) ?_
              refine a_goto (tgt := 90) C dX10_stopsAt_85 rfl ?_
              refine a_cast (o := 63) (N := 31) (q / 2) C dX10_stopsAt_90 rfl (by omega) (by omega) (by decide) (by decide) ?_
              obtain ⟨g10, eg10⟩ : ∃ F : Nat → Nat → Int, F = ii_up g 63 (q / 2) 100 := ⟨_, rfl⟩
              rw [← eg10]
              refine a_iload_n C dX10_stopsAt_91 rfl ?_
              refine a_callS (As := [ii_v ((q : Nat) : Int)]) C (m_isDrop hl g10 w q (by omega)) co_X10_isDrop in_X10 ml_X10_135 sc_X10_isDrop ar_X10_isDrop ⟨by decide, by decide, by decide, by decide⟩ rfl (Nat.le_of_ble_eq_true rfl) dX10_stopsAt_92 (a_dR ?_) a_nR
              rw [md_iff (P := q % 2 = 0)]
              refine a_bif_eq (tgt := 112) C dX10_stopsAt_95 rfl (fun h95 => ?_) (fun h95 => ?_)
              · skip
                exact absurd h80 h95
              · skip
                refine a_aload_n C dX10_stopsAt_98 rfl ?_
                refine a_get (ci := 11) (i := 22) (v := .ref (ad 62)) C iw_X10 rfl (by decide) rfl fl_X10_73 rfl rfl dX10_stopsAt_99 ?_
                refine a_iload C dX10_stopsAt_102 rfl ?_
                refine a_aload_n C dX10_stopsAt_104 rfl ?_
                refine a_get (ci := 11) (i := 32) (v := ii_v (g10 40 32)) C iw_X10 rfl (by decide) rfl fl_X10_157 rfl rfl dX10_stopsAt_105 ?_
                refine a_top (w := ii_v (g 40 32)) (congrArg (fun q => ii_v q) (show g10 40 32 = (g 40 32) by rw [eg10, ii_up_o _ _ _ (by omega)])) ?_
                refine a_top (w := ii_v (f 40 32)) (congrArg (fun q => ii_v q) ht) ?_
                refine a_iast (o := 62) (N := 31) (q / 2) C dX10_stopsAt_108 rfl (by omega) (by omega) (by decide) ?_
                obtain ⟨g11, eg11⟩ : ∃ F : Nat → Nat → Int, F = ii_up g10 62 (q / 2) (f 40 32) := ⟨_, rfl⟩
                rw [← eg11]
                refine a_goto (tgt := 123) C dX10_stopsAt_109 rfl ?_
                refine a_aload_n C dX10_stopsAt_123 rfl ?_
                refine a_get (ci := 11) (i := 25) (v := .ref (ad 65)) C iw_X10 rfl (by decide) rfl fl_X10_83 rfl rfl dX10_stopsAt_124 ?_
                refine a_aload_n C dX10_stopsAt_127 rfl ?_
                refine a_get (ci := 11) (i := 31) (v := ii_v (g11 40 31)) C iw_X10 rfl (by decide) rfl fl_X10_202 rfl rfl dX10_stopsAt_128 ?_
                refine a_top (w := ii_v (g 40 31)) (congrArg (fun q => ii_v q) (show g11 40 31 = (g 40 31) by rw [eg11, ii_up_o _ _ _ (by omega), eg10, ii_up_o _ _ _ (by omega)])) ?_
                refine a_top (w := ii_v ((e0 + k : Nat) : Int)) (congrArg (fun q => ii_v q) hge) ?_
                refine a_iload_n C dX10_stopsAt_131 rfl ?_
                refine a_iast (o := 65) (N := 60) (e0 + k) C dX10_stopsAt_132 rfl (by omega) (by omega) (by decide) ?_
                obtain ⟨g12, eg12⟩ : ∃ F : Nat → Nat → Int, F = ii_up g11 65 (e0 + k) ((b : Nat) : Int) := ⟨_, rfl⟩
                rw [← eg12]
                refine a_aload_n C dX10_stopsAt_133 rfl ?_
                refine a_get (ci := 11) (i := 26) (v := .ref (ad 66)) C iw_X10 rfl (by decide) rfl fl_X10_86 rfl rfl dX10_stopsAt_134 ?_
                refine a_aload_n C dX10_stopsAt_137 rfl ?_
                refine a_get (ci := 11) (i := 31) (v := ii_v (g12 40 31)) C iw_X10 rfl (by decide) rfl fl_X10_202 rfl rfl dX10_stopsAt_138 ?_
                refine a_top (w := ii_v (g 40 31)) (congrArg (fun q => ii_v q) (show g12 40 31 = (g 40 31) by rw [eg12, ii_up_o _ _ _ (by omega), eg11, ii_up_o _ _ _ (by omega), eg10, ii_up_o _ _ _ (by omega)])) ?_
                refine a_top (w := ii_v ((e0 + k : Nat) : Int)) (congrArg (fun q => ii_v q) hge) ?_
                refine a_iload C dX10_stopsAt_141 rfl ?_
                refine a_iast (o := 66) (N := 60) (e0 + k) C dX10_stopsAt_143 rfl (by omega) (by omega) (by decide) ?_
                obtain ⟨g13, eg13⟩ : ∃ F : Nat → Nat → Int, F = ii_up g12 66 (e0 + k) (((q : Nat) : Int) / 2) := ⟨_, rfl⟩
                rw [← eg13]
                refine a_aload_n C dX10_stopsAt_144 rfl ?_
                refine a_get (ci := 11) (i := 27) (v := .ref (ad 67)) C iw_X10 rfl (by decide) rfl fl_X10_89 rfl rfl dX10_stopsAt_145 ?_
                refine a_aload_n C dX10_stopsAt_148 rfl ?_
                refine a_get (ci := 11) (i := 31) (v := ii_v (g13 40 31)) C iw_X10 rfl (by decide) rfl fl_X10_202 rfl rfl dX10_stopsAt_149 ?_
                refine a_top (w := ii_v (g 40 31)) (congrArg (fun q => ii_v q) (show g13 40 31 = (g 40 31) by rw [eg13, ii_up_o _ _ _ (by omega), eg12, ii_up_o _ _ _ (by omega), eg11, ii_up_o _ _ _ (by omega), eg10, ii_up_o _ _ _ (by omega)])) ?_
                refine a_top (w := ii_v ((e0 + k : Nat) : Int)) (congrArg (fun q => ii_v q) hge) ?_
                refine a_aload_n C dX10_stopsAt_152 rfl ?_
                refine a_get (ci := 11) (i := 32) (v := ii_v (g13 40 32)) C iw_X10 rfl (by decide) rfl fl_X10_157 rfl rfl dX10_stopsAt_153 ?_
                refine a_top (w := ii_v (g 40 32)) (congrArg (fun q => ii_v q) (show g13 40 32 = (g 40 32) by rw [eg13, ii_up_o _ _ _ (by omega), eg12, ii_up_o _ _ _ (by omega), eg11, ii_up_o _ _ _ (by omega), eg10, ii_up_o _ _ _ (by omega)])) ?_
                refine a_top (w := ii_v (f 40 32)) (congrArg (fun q => ii_v q) ht) ?_
                refine a_iast (o := 67) (N := 60) (e0 + k) C dX10_stopsAt_156 rfl (by omega) (by omega) (by decide) ?_
                obtain ⟨g14, eg14⟩ : ∃ F : Nat → Nat → Int, F = ii_up g13 67 (e0 + k) (f 40 32) := ⟨_, rfl⟩
                rw [← eg14]
                refine a_aload_n C dX10_stopsAt_157 rfl ?_
                refine a_get (ci := 11) (i := 28) (v := .ref (ad 68)) C iw_X10 rfl (by decide) rfl fl_X10_92 rfl rfl dX10_stopsAt_158 ?_
                refine a_aload_n C dX10_stopsAt_161 rfl ?_
                refine a_get (ci := 11) (i := 31) (v := ii_v (g14 40 31)) C iw_X10 rfl (by decide) rfl fl_X10_202 rfl rfl dX10_stopsAt_162 ?_
                refine a_top (w := ii_v (g 40 31)) (congrArg (fun q => ii_v q) (show g14 40 31 = (g 40 31) by rw [eg14, ii_up_o _ _ _ (by omega), eg13, ii_up_o _ _ _ (by omega), eg12, ii_up_o _ _ _ (by omega), eg11, ii_up_o _ _ _ (by omega), eg10, ii_up_o _ _ _ (by omega)])) ?_
                refine a_top (w := ii_v ((e0 + k : Nat) : Int)) (congrArg (fun q => ii_v q) hge) ?_
                refine a_aload_n C dX10_stopsAt_165 rfl ?_
                refine a_get (ci := 11) (i := 8) (v := .ref (ad 48)) C iw_X10 rfl (by decide) rfl fl_X10_31 rfl rfl dX10_stopsAt_166 ?_
                refine a_iload_n C dX10_stopsAt_169 rfl ?_
                refine a_iald (o := 48) (N := 4) b C dX10_stopsAt_170 rfl (by omega) (by omega) (by decide) ?_
                refine a_top (w := ii_v (g14 48 b)) rfl ?_
                refine a_top (w := ii_v (g 48 b)) (congrArg (fun q => ii_v q) (show g14 48 b = (g 48 b) by rw [eg14, ii_up_o _ _ _ (by omega), eg13, ii_up_o _ _ _ (by omega), eg12, ii_up_o _ _ _ (by omega), eg11, ii_up_o _ _ _ (by omega), eg10, ii_up_o _ _ _ (by omega)])) ?_
                refine a_top (w := ii_v (f 48 b)) (congrArg (fun q => ii_v q) (congrFun (hgr 48 (by decide)) b)) ?_
                refine a_iast (o := 68) (N := 60) (e0 + k) C dX10_stopsAt_171 rfl (by omega) (by omega) (by decide) ?_
                obtain ⟨g15, eg15⟩ : ∃ F : Nat → Nat → Int, F = ii_up g14 68 (e0 + k) (f 48 b) := ⟨_, rfl⟩
                rw [← eg15]
                refine a_aload_n C dX10_stopsAt_172 rfl ?_
                refine a_dup C dX10_stopsAt_173 rfl ?_
                refine a_get (ci := 11) (i := 31) (v := ii_v (g15 40 31)) C iw_X10 rfl (by decide) rfl fl_X10_202 rfl rfl dX10_stopsAt_174 ?_
                refine a_top (w := ii_v (g 40 31)) (congrArg (fun q => ii_v q) (show g15 40 31 = (g 40 31) by rw [eg15, ii_up_o _ _ _ (by omega), eg14, ii_up_o _ _ _ (by omega), eg13, ii_up_o _ _ _ (by omega), eg12, ii_up_o _ _ _ (by omega), eg11, ii_up_o _ _ _ (by omega), eg10, ii_up_o _ _ _ (by omega)])) ?_
                refine a_top (w := ii_v ((e0 + k : Nat) : Int)) (congrArg (fun q => ii_v q) hge) ?_
                refine a_iconst C dX10_stopsAt_177 ?_
                refine a_iadd C dX10_stopsAt_178 ?_
                refine a_put (ci := 11) (i := 31) C iw_X10 rfl (by decide) rfl tyX10 tyX10_ok nmX10 rfl rfl fl_X10_202 rfl rfl rfl rfl dX10_stopsAt_179 ?_
                obtain ⟨g16, eg16⟩ : ∃ F : Nat → Nat → Int, F = ii_up g15 40 31 ((((e0 + k) : Nat) : Int) + 1) := ⟨_, rfl⟩
                rw [← eg16]
                refine a_iinc (L' := [(0, .ref (ad 40)), (1, ii_v ((b : Nat) : Int)), (2, ii_v (((k : Nat) : Int) + 1)), (3, ii_v ((q : Nat) : Int)), (4, ii_v (((q : Nat) : Int) / 2))]) C dX10_stopsAt_182 rfl (by decide) rfl ?_
                refine a_aload_n C dX10_stopsAt_185 rfl ?_
                refine a_get (ci := 11) (i := 11) (v := .ref (ad 51)) C iw_X10 rfl (by decide) rfl fl_X10_40 rfl rfl dX10_stopsAt_186 ?_
                refine a_iload_n C dX10_stopsAt_189 rfl ?_
                refine a_dup2 C dX10_stopsAt_190 rfl rfl ?_
                refine a_iald (o := 51) (N := 4) b C dX10_stopsAt_191 rfl (by omega) (by omega) (by decide) ?_
                refine a_top (w := ii_v (g16 51 b)) rfl ?_
                refine a_top (w := ii_v (g 51 b)) (congrArg (fun q => ii_v q) (show g16 51 b = (g 51 b) by rw [eg16, ii_up_o _ _ _ (by omega), eg15, ii_up_o _ _ _ (by omega), eg14, ii_up_o _ _ _ (by omega), eg13, ii_up_o _ _ _ (by omega), eg12, ii_up_o _ _ _ (by omega), eg11, ii_up_o _ _ _ (by omega), eg10, ii_up_o _ _ _ (by omega)])) ?_
                refine a_top (w := ii_v ((S.length - k : Nat) : Int)) (congrArg (fun q => ii_v q) (hSk.1.trans (by rw [List.length_drop]))) ?_
                refine a_iconst C dX10_stopsAt_192 ?_
                refine a_isub C dX10_stopsAt_193 ?_
                refine a_iast (o := 51) (N := 4) b C dX10_stopsAt_194 rfl (by omega) (by omega) (by decide) ?_
                obtain ⟨g17, eg17⟩ : ∃ F : Nat → Nat → Int, F = ii_up g16 51 b ((((S.length - k) : Nat) : Int) - 1) := ⟨_, rfl⟩
                rw [← eg17]
                have hX : g16 = mm_T g b q := by
                  rw [eg16, eg15, eg14, eg13, eg12, eg11, eg10]
                  unfold mm_T
                  rw [show (g 40 31).toNat = e0 + k by omega, hge, ht, hgr 48 (by decide), show ((q / 2 : Nat) : Int) = (q : Int) / 2 by omega]
                  first | rw [if_pos (Classical.byContradiction (by assumption))] | rw [if_pos (by assumption)] | rw [if_neg (by assumption)]
                rw [hX] at eg17
                refine a_iconst C dX10_stopsAt_195 ?_
                refine a_istore (L' := [(0, .ref (ad 40)), (1, ii_v ((b : Nat) : Int)), (2, ii_v (((k : Nat) : Int) + 1)), (3, ii_v ((q : Nat) : Int)), (4, ii_v (((q : Nat) : Int) / 2)), (5, ii_v 0)]) C dX10_stopsAt_196 (by decide) rfl ?_
                have loop198 : ∀ (NN198 : Nat) (j : Nat) (g2 : Nat → Nat → Int), S.length - (k + 1) - j < NN198 → (j ≤ S.length - (k + 1)) → (∀ o2, o2 ≠ 52 → g2 o2 = g17 o2) → (∀ m, m < j → g2 52 (8 * b + m) = (((S.drop (k + 1)).getD m 0 : Nat) : Int)) → (∀ m, j ≤ m → m < (S.drop (k + 1)).length → g2 52 (8 * b + (m + 1)) = (((S.drop (k + 1)).getD m 0 : Nat) : Int)) → (∀ i, i < 8 * b ∨ 8 * b + 8 ≤ i → g2 52 i = f 52 i) → ab_W p l e (ab_rm 3 0 0) s m args below meth c E base 6 (ab_Q below E base Post args s 0 0) ab_x4 ad (g2, w) 0 0 198 [(0, .ref (ad 40)), (1, ii_v ((b : Nat) : Int)), (2, ii_v (((k : Nat) : Int) + 1)), (3, ii_v ((q : Nat) : Int)), (4, ii_v (((q : Nat) : Int) / 2)), (5, ii_v ((j : Nat) : Int))] [] := by
                  intro NN198
                  induction NN198 with
                  | zero => intro j g2 hNN; exact absurd hNN (Nat.not_lt_zero _)
                  | succ NN198 ih198 =>
                    intro j g2 hNN hj hg2 hsh hrest hx52b
                    have h512 : g2 51 b = ((S.length - (k + 1) : Nat) : Int) := by rw [hg2 51 (by decide), eg17, ii_up_s]; omega
                    refine a_iload C dX10_stopsAt_198 rfl ?_
                    refine a_aload_n C dX10_stopsAt_200 rfl ?_
                    refine a_get (ci := 11) (i := 11) (v := .ref (ad 51)) C iw_X10 rfl (by decide) rfl fl_X10_40 rfl rfl dX10_stopsAt_201 ?_
                    refine a_iload_n C dX10_stopsAt_204 rfl ?_
                    refine a_iald (o := 51) (N := 4) b C dX10_stopsAt_205 rfl (by omega) (by omega) (by decide) ?_
                    refine a_top (w := ii_v (g2 51 b)) rfl ?_
                    refine a_top (w := ii_v ((S.length - (k + 1) : Nat) : Int)) (congrArg (fun q => ii_v q) h512) ?_
                    refine a_icmp_ge (tgt := 241) C dX10_stopsAt_206 rfl (by unfold ii_B; omega) (by unfold ii_B; omega) (fun h206 => ?_) (fun h206 => ?_)
                    · skip
                      refine a_goto (tgt := 2) C dX10_stopsAt_241 rfl ?_
                      refine a_pick [0, 1, 2] (L2 := [(0, .ref (ad 40)), (1, ii_v ((b : Nat) : Int)), (2, ii_v (((k : Nat) : Int) + 1))]) rfl ?_
                      exact ih2 (k + 1) g2 (va_f v2 q (f 40 32)) (by omega) (by omega) ⟨by rw [h512, List.length_drop], by rw [List.length_drop]; omega, fun m hm => hsh m (by rw [List.length_drop] at hm; omega), fun m hm => hSq.2.2.2 (m + 1) (Nat.succ_lt_succ hm)⟩ (by rw [hdue, hdr, du_n, if_pos hdz]; omega) (fun o2 h1 h2 => by rw [hg2 o2 h2, eg17, ii_up_row _ _ h1, mm_take hkl, hqe]; exact mm_cong (hfr 40 (by decide) (by decide)) (hfr 48 (by decide) (by decide)) (hfr o2 h1 h2)) (by rw [hg2 40 (by decide), eg17, ii_up_o _ _ _ (by decide), mm_31, hge]; omega) (fun o2 h => by rw [hg2 o2 (by omega), eg17, ii_up_row _ _ (by omega), mm_row (by omega)]; exact hgr o2 h) (by rw [hg2 40 (by decide), eg17, ii_up_o _ _ _ (by decide), mm_40 (by decide)]; exact ht) (by rw [← ht]; exact pj_same (mm_pj (by rw [ht]; exact hnow) hvg) (fun o2 h => by rw [hg2 o2 (by omega), eg17, ii_up_row _ _ (by omega)])) (fun q2 => hv0 q2) (fun i hi => by rw [hg2 51 (by decide), eg17, ii_up_k _ _ hi, mm_row (by decide)]; exact hx51 i hi) hx52b
                    · skip
                      refine a_aload_n C dX10_stopsAt_209 rfl ?_
                      refine a_get (ci := 11) (i := 12) (v := .ref (ad 52)) C iw_X10 rfl (by decide) rfl fl_X10_43 rfl rfl dX10_stopsAt_210 ?_
                      refine a_bipush C dX10_stopsAt_213 (by decide) ?_
                      refine a_iload_n C dX10_stopsAt_215 rfl ?_
                      refine a_imul C dX10_stopsAt_216 ?_
                      refine a_iload C dX10_stopsAt_217 rfl ?_
                      refine a_iadd C dX10_stopsAt_219 ?_
                      refine a_aload_n C dX10_stopsAt_220 rfl ?_
                      refine a_get (ci := 11) (i := 12) (v := .ref (ad 52)) C iw_X10 rfl (by decide) rfl fl_X10_43 rfl rfl dX10_stopsAt_221 ?_
                      refine a_bipush C dX10_stopsAt_224 (by decide) ?_
                      refine a_iload_n C dX10_stopsAt_226 rfl ?_
                      refine a_imul C dX10_stopsAt_227 ?_
                      refine a_iload C dX10_stopsAt_228 rfl ?_
                      refine a_iadd C dX10_stopsAt_230 ?_
                      refine a_iconst C dX10_stopsAt_231 ?_
                      refine a_iadd C dX10_stopsAt_232 ?_
                      refine a_iald (o := 52) (N := 32) (((8 * b) + j) + 1) C dX10_stopsAt_233 rfl (by omega) (by omega) (by decide) ?_
                      refine a_top (w := ii_v (g2 52 (((8 * b) + j) + 1))) rfl ?_
                      refine a_top (w := ii_v (((S.drop (k + 1)).getD j 0 : Nat) : Int)) (congrArg (fun q => ii_v q) (hrest j (Nat.le_refl _) (by rw [List.length_drop]; omega))) ?_
                      refine a_iast (o := 52) (N := 32) ((8 * b) + j) C dX10_stopsAt_234 rfl (by omega) (by omega) (by decide) ?_
                      obtain ⟨g18, eg18⟩ : ∃ F : Nat → Nat → Int, F = ii_up g2 52 ((8 * b) + j) ((((S.drop (k + 1)).getD j 0) : Nat) : Int) := ⟨_, rfl⟩
                      rw [← eg18]
                      refine a_iinc (L' := [(0, .ref (ad 40)), (1, ii_v ((b : Nat) : Int)), (2, ii_v (((k : Nat) : Int) + 1)), (3, ii_v ((q : Nat) : Int)), (4, ii_v (((q : Nat) : Int) / 2)), (5, ii_v (((j : Nat) : Int) + 1))]) C dX10_stopsAt_235 rfl (by decide) rfl ?_
                      refine a_goto (tgt := 198) C dX10_stopsAt_238 rfl ?_
                      exact ih198 (j + 1) g18 (by omega) (by omega) (fun o2 h => by rw [eg18, ii_up_row _ _ h]; exact hg2 o2 h) (by rw [eg18]; exact lt_s (fun m h => by rw [ii_up_k _ _ (by omega)]; exact hsh m h) (ii_up_s _ _ _ _)) (fun m h1 h2 => by rw [eg18, ii_up_k _ _ (by omega)]; exact hrest m (by omega) h2) (fun i hi => by rw [eg18, ii_up_k _ _ (by omega)]; exact hx52b i hi)
                exact loop198 (_ + 1) 0 g17 (Nat.lt_succ_self _) (Nat.zero_le _) (fun _ _ => rfl) (fun m h => absurd h (Nat.not_lt_zero m)) (fun m _ hm => by rw [eg17, ii_up_o _ _ _ (by decide), mm_row (by decide)]; exact hSq.2.2.1 (m + 1) (Nat.succ_lt_succ hm)) (fun i hi => by rw [eg17, ii_up_o _ _ _ (by decide), mm_row (by decide)]; exact hx52 i hi)
  exact loop2 (_ + 1) 0 f v (Nat.lt_succ_self _) (Nat.zero_le _) hS (Nat.zero_add _).symm (fun _ _ _ => rfl) he (fun _ _ => rfl) rfl hv (fun _ => ⟨rfl, rfl⟩) (fun _ _ => rfl) (fun _ _ => rfl)
