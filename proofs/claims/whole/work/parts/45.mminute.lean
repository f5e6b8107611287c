/-! The model: a minute of a bus. -/
def sm_T (f v : Nat → Nat → Int) (n b : Nat) (S : List Nat) : Nat → Nat → Int :=
  if S = [] then (if f 44 b ≠ f 46 b ∨ f 45 b ≠ f 47 b then dm_T f n b (f 46 b) (f 47 b) else ii_up f 43 b (min (f 42 b) (f 43 b + 5)))
  else dm_T f n b (v 0 (S.getD 0 0)) (v 1 (S.getD 0 0))
section DM
variable {f : Nat → Nat → Int} {n b o : Nat} {x y : Int}
theorem dm_row (h : (o < 43 ∨ 45 < o) ∧ (o < 48 ∨ 50 < o)) : dm_T f n b x y o = f o := by
  unfold dm_T dm_1
  split
  · rw [ii_up_row _ _ (by omega), ii_up_row _ _ (by omega), ii_up_row _ _ (by omega), ii_up_row _ _ (by omega)]
    split
    · rw [ii_up_row _ _ (by omega)]
    · rw [ii_up_row _ _ (by omega)]
  · rw [ii_up_row _ _ (by omega), ii_up_row _ _ (by omega), ii_up_row _ _ (by omega)]
    split
    · rw [ii_up_row _ _ (by omega)]
    · rw [ii_up_row _ _ (by omega)]
theorem dm_43 : dm_T f n b x y 43 b = f 43 b - 1 := by
  unfold dm_T
  split
  · rw [ii_up_o _ _ _ (by decide), ii_up_o _ _ _ (by decide), ii_up_o _ _ _ (by decide), ii_up_s]
  · rw [ii_up_o _ _ _ (by decide), ii_up_o _ _ _ (by decide), ii_up_s]
theorem dm_44 : dm_T f n b x y 44 b = if f 44 b = x then f 44 b else f 44 b + (if f 44 b < x then 1 else -1) := by
  unfold dm_T dm_1
  split
  · rw [ii_up_o _ _ _ (by decide), ii_up_o _ _ _ (by decide), ii_up_o _ _ _ (by decide), ii_up_o _ _ _ (by decide)]
    split
    · rw [ii_up_o _ _ _ (by decide)]
    · rw [ii_up_s]
  · rw [ii_up_o _ _ _ (by decide), ii_up_o _ _ _ (by decide), ii_up_o _ _ _ (by decide)]
    split
    · rw [ii_up_o _ _ _ (by decide)]
    · rw [ii_up_s]
theorem dm_45 : dm_T f n b x y 45 b = if f 44 b = x then f 45 b + (if f 45 b < y then 1 else -1) else f 45 b := by
  unfold dm_T dm_1
  split
  · rw [ii_up_o _ _ _ (by decide), ii_up_o _ _ _ (by decide), ii_up_o _ _ _ (by decide), ii_up_o _ _ _ (by decide)]
    split
    · rw [ii_up_s]
    · rw [ii_up_o _ _ _ (by decide)]
  · rw [ii_up_o _ _ _ (by decide), ii_up_o _ _ _ (by decide), ii_up_o _ _ _ (by decide)]
    split
    · rw [ii_up_s]
    · rw [ii_up_o _ _ _ (by decide)]
theorem dm_pk (hB : pk_B f b) (hc : -900 ≤ f 43 b) (hx : 0 ≤ x ∧ x ≤ 20) (hy : 0 ≤ y ∧ y ≤ 20) (hne : ¬ (f 44 b = x ∧ f 45 b = y)) : pk_B (dm_T f n b x y) b := by
  obtain ⟨h1, h2, h3, h4, h5, h6⟩ := hB
  unfold pk_B
  rw [dm_row (o := 41) (by decide), dm_row (o := 46) (by decide), dm_row (o := 47) (by decide), dm_43, dm_44, dm_45]
  refine ⟨h1, h2, h3, ?_, ?_, by omega⟩
  · split
    · exact h4
    · split <;> omega
  · split
    · split <;> omega
    · exact h5
theorem du_hd {v : Nat → Nat → Int} {S : List Nat} (hS : S ≠ []) (h : du_n v x y S = 0) : ¬ (x = v 0 (S.getD 0 0) ∧ y = v 1 (S.getD 0 0)) := by
  cases S with
  | nil => exact absurd rfl hS
  | cons q S =>
    intro hz
    rw [du_n, if_pos (by show pd_d x y (v 0 q) (v 1 q) ≤ 0; rw [hz.1, hz.2]; show pd_d (v 0 q) (v 1 q) (v 0 q) (v 1 q) ≤ 0; unfold pd_d; omega)] at h
    omega
end DM
set_option maxRecDepth 20000 in
set_option maxHeartbeats 2000000 in
theorem m_minute {l : Launch} {E : ab_E} {base : Nat} (hl : l.stackTraces = false) {ad : Nat → Nat} (f : Nat → Nat → Int) (w : Nat × Nat × Int64 × UInt64) (b : Nat) (hb : b < 4) {v : Nat → Nat → Int} (hv : pj_C f v) (hB : pk_B f b) (hch : -900 ≤ f 43 b) (hcap : 0 ≤ f 42 b ∧ f 42 b ≤ 1000) (n : Nat) (hn : f 40 30 = (n : Int)) (hn30 : n ≤ 30) (hrid : ∀ r, r < n → (0 ≤ f 57 r ∧ f 57 r ≤ 6) ∧ st_ok (f 63 r) ∧ -1 ≤ f 60 r ∧ f 60 r ≤ 10) {S : List Nat} (hS : mt_I f b S) (hS6 : S.length ≤ 6) (hq : ∀ j, j < S.length → S.getD j 0 / 2 ≤ 30) (hno : du_n v (f 44 b) (f 45 b) S = 0) (hnow : 0 ≤ f 40 32 ∧ f 40 32 ≤ 100000) (e0 : Nat) (he : f 40 31 = (e0 : Int)) (h60 : e0 + S.length ≤ 60)  : ab_M l E base yX10_minute cX10_minute 2 (some .int) 4 0 0 [.ref (ad 40), ii_v ((b : Nat) : Int)] ab_x4 ad (f, w) (ab_F ad w (fun ov g => ov = some (ii_v (((du_n v (sm_T f v n b S 44 b) (sm_T f v n b S 45 b) S) : Nat) : Int)) ∧ mt_I g b (S.drop (du_n v (sm_T f v n b S 44 b) (sm_T f v n b S 45 b) S)) ∧ (∀ o2, o2 ≠ 51 → o2 ≠ 52 → g o2 = mm_D (sm_T f v n b S) b (S.take (du_n v (sm_T f v n b S 44 b) (sm_T f v n b S 45 b) S)) o2) ∧ (∀ i, i ≠ b → g 51 i = f 51 i) ∧ ∀ i, i < 8 * b ∨ 8 * b + 8 ≤ i → g 52 i = f 52 i)) := by
  obtain ⟨Post, hPost⟩ : ∃ P : ab_P, P = (ab_F ad w (fun ov g => ov = some (ii_v (((du_n v (sm_T f v n b S 44 b) (sm_T f v n b S 45 b) S) : Nat) : Int)) ∧ mt_I g b (S.drop (du_n v (sm_T f v n b S 44 b) (sm_T f v n b S 45 b) S)) ∧ (∀ o2, o2 ≠ 51 → o2 ≠ 52 → g o2 = mm_D (sm_T f v n b S) b (S.take (du_n v (sm_T f v n b S 44 b) (sm_T f v n b S 45 b) S)) o2) ∧ (∀ i, i ≠ b → g 51 i = f 51 i) ∧ ∀ i, i < 8 * b ∨ 8 * b + 8 ≤ i → g 52 i = f 52 i)) := ⟨_, rfl⟩
  rw [← hPost]
  refine ab_of RX10 [(0, .ref (ad 40)), (1, ii_v ((b : Nat) : Int))] hl (by decide) rfl (Nat.le_of_ble_eq_true rfl) rfl ?_
  intro p e s m args below meth c C T0 hnm
  obtain ⟨hc, h8, hj8, hb64⟩ := id hS
  obtain ⟨hB1, hB6, hB7, hB4, hB5, hB8⟩ := id hB
  refine a_aload_n C dX10_minute_0 rfl ?_
  refine a_get (ci := 11) (i := 11) (v := .ref (ad 51)) C iw_X10 rfl (by decide) rfl fl_X10_40 rfl rfl dX10_minute_1 ?_
  refine a_iload_n C dX10_minute_4 rfl ?_
  refine a_iald (o := 51) (N := 4) b C dX10_minute_5 rfl (by omega) (by omega) (by decide) ?_
  refine a_top (w := ii_v (f 51 b)) rfl ?_
  refine a_top (w := ii_v ((S.length : Nat) : Int)) (congrArg (fun q => ii_v q) hc) ?_
  refine a_if_le (tgt := 46) C dX10_minute_6 rfl (by unfold ii_B; omega) (fun h6 => ?_) (fun h6 => ?_)
  · skip
    have hS0 : S = [] := List.eq_nil_of_length_eq_zero (by omega)
    refine a_aload_n C dX10_minute_46 rfl ?_
    refine a_get (ci := 11) (i := 4) (v := .ref (ad 44)) C iw_X10 rfl (by decide) rfl fl_X10_19 rfl rfl dX10_minute_47 ?_
    refine a_iload_n C dX10_minute_50 rfl ?_
    refine a_iald (o := 44) (N := 4) b C dX10_minute_51 rfl (by omega) (by omega) (by decide) ?_
    refine a_top (w := ii_v (f 44 b)) rfl ?_
    refine a_aload_n C dX10_minute_52 rfl ?_
    refine a_get (ci := 11) (i := 6) (v := .ref (ad 46)) C iw_X10 rfl (by decide) rfl fl_X10_25 rfl rfl dX10_minute_53 ?_
    refine a_iload_n C dX10_minute_56 rfl ?_
    refine a_iald (o := 46) (N := 4) b C dX10_minute_57 rfl (by omega) (by omega) (by decide) ?_
    refine a_top (w := ii_v (f 46 b)) rfl ?_
    refine a_icmp_ne (tgt := 76) C dX10_minute_58 rfl (by unfold ii_B; omega) (by unfold ii_B; omega) (fun h58 => ?_) (fun h58 => ?_)
    · skip
      refine a_aload_n C dX10_minute_76 rfl ?_
      refine a_iload_n C dX10_minute_77 rfl ?_
      refine a_aload_n C dX10_minute_78 rfl ?_
      refine a_get (ci := 11) (i := 6) (v := .ref (ad 46)) C iw_X10 rfl (by decide) rfl fl_X10_25 rfl rfl dX10_minute_79 ?_
      refine a_iload_n C dX10_minute_82 rfl ?_
      refine a_iald (o := 46) (N := 4) b C dX10_minute_83 rfl (by omega) (by omega) (by decide) ?_
      refine a_top (w := ii_v (f 46 b)) rfl ?_
      refine a_aload_n C dX10_minute_84 rfl ?_
      refine a_get (ci := 11) (i := 7) (v := .ref (ad 47)) C iw_X10 rfl (by decide) rfl fl_X10_28 rfl rfl dX10_minute_85 ?_
      refine a_iload_n C dX10_minute_88 rfl ?_
      refine a_iald (o := 47) (N := 4) b C dX10_minute_89 rfl (by omega) (by omega) (by decide) ?_
      refine a_top (w := ii_v (f 47 b)) rfl ?_
      refine a_callV (o := 40) (As := [ii_v ((b : Nat) : Int), ii_v (f 46 b), ii_v (f 47 b)]) C (m_drives hl f w b hb hB n hn hn30 hrid (f 46 b) (f 47 b) hB6 hB7) co_X10_drives in_X10 ml_X10_262 im_X10_drives se_X10_drives rfl rfl ar_X10_drives ⟨by decide, by decide, by decide, by decide⟩ rfl (Nat.le_of_ble_eq_true rfl) dX10_minute_90 (a_dV ?_) a_nV
      obtain ⟨g1, eg1⟩ : ∃ F : Nat → Nat → Int, F = dm_T f n b (f 46 b) (f 47 b) := ⟨_, rfl⟩
      rw [← eg1]
      refine a_goto (tgt := 119) C dX10_minute_93 rfl ?_
      refine a_iconst C dX10_minute_119 ?_
      refine a_iret C ?_ (by decide) (by decide) dX10_minute_120
      rw [hPost]
      have hF : g1 = sm_T f v n b S := by
        rw [eg1]; unfold sm_T; rw [if_pos hS0]; first | rw [if_pos (by omega)] | rw [if_neg (by omega)]
      have hd0 : (du_n v (sm_T f v n b S 44 b) (sm_T f v n b S 45 b) S) = 0 := by rw [hS0]; rfl
      refine ab_F_of ⟨by rw [hd0]; rfl, ?_⟩
      rw [hd0]
      refine ⟨mt_same hS (by rw [eg1]; first | exact dm_row (by decide) | exact ii_up_row _ _ (by decide)) (by rw [eg1]; first | exact dm_row (by decide) | exact ii_up_row _ _ (by decide)), fun o2 _ _ => by rw [hF]; rfl, fun i _ => congrFun (by rw [eg1]; first | exact dm_row (by decide) | exact ii_up_row _ _ (by decide)) i, fun i _ => congrFun (by rw [eg1]; first | exact dm_row (by decide) | exact ii_up_row _ _ (by decide)) i⟩
    · skip
      refine a_aload_n C dX10_minute_61 rfl ?_
      refine a_get (ci := 11) (i := 5) (v := .ref (ad 45)) C iw_X10 rfl (by decide) rfl fl_X10_22 rfl rfl dX10_minute_62 ?_
      refine a_iload_n C dX10_minute_65 rfl ?_
      refine a_iald (o := 45) (N := 4) b C dX10_minute_66 rfl (by omega) (by omega) (by decide) ?_
      refine a_top (w := ii_v (f 45 b)) rfl ?_
      refine a_aload_n C dX10_minute_67 rfl ?_
      refine a_get (ci := 11) (i := 7) (v := .ref (ad 47)) C iw_X10 rfl (by decide) rfl fl_X10_28 rfl rfl dX10_minute_68 ?_
      refine a_iload_n C dX10_minute_71 rfl ?_
      refine a_iald (o := 47) (N := 4) b C dX10_minute_72 rfl (by omega) (by omega) (by decide) ?_
      refine a_top (w := ii_v (f 47 b)) rfl ?_
      refine a_icmp_eq (tgt := 96) C dX10_minute_73 rfl (by unfold ii_B; omega) (by unfold ii_B; omega) (fun h73 => ?_) (fun h73 => ?_)
      · skip
        refine a_aload_n C dX10_minute_96 rfl ?_
        refine a_get (ci := 11) (i := 3) (v := .ref (ad 43)) C iw_X10 rfl (by decide) rfl fl_X10_16 rfl rfl dX10_minute_97 ?_
        refine a_iload_n C dX10_minute_100 rfl ?_
        refine a_aload_n C dX10_minute_101 rfl ?_
        refine a_get (ci := 11) (i := 2) (v := .ref (ad 42)) C iw_X10 rfl (by decide) rfl fl_X10_13 rfl rfl dX10_minute_102 ?_
        refine a_iload_n C dX10_minute_105 rfl ?_
        refine a_iald (o := 42) (N := 4) b C dX10_minute_106 rfl (by omega) (by omega) (by decide) ?_
        refine a_top (w := ii_v (f 42 b)) rfl ?_
        refine a_aload_n C dX10_minute_107 rfl ?_
        refine a_get (ci := 11) (i := 3) (v := .ref (ad 43)) C iw_X10 rfl (by decide) rfl fl_X10_16 rfl rfl dX10_minute_108 ?_
        refine a_iload_n C dX10_minute_111 rfl ?_
        refine a_iald (o := 43) (N := 4) b C dX10_minute_112 rfl (by omega) (by omega) (by decide) ?_
        refine a_top (w := ii_v (f 43 b)) rfl ?_
        refine a_iconst C dX10_minute_113 ?_
        refine a_iadd C dX10_minute_114 ?_
        refine a_min C ml_X10_266 dX10_minute_115 (by decide) (Nat.le_of_ble_eq_true rfl) (by decide) (by unfold ii_B; omega) (by unfold ii_B; omega) ?_
        refine a_iast (o := 43) (N := 4) b C dX10_minute_118 rfl (by omega) (by omega) (by decide) ?_
        obtain ⟨g2, eg2⟩ : ∃ F : Nat → Nat → Int, F = ii_up f 43 b (min (f 42 b) ((f 43 b) + 5)) := ⟨_, rfl⟩
        rw [← eg2]
        refine a_iconst C dX10_minute_119 ?_
        refine a_iret C ?_ (by decide) (by decide) dX10_minute_120
        rw [hPost]
        have hF : g2 = sm_T f v n b S := by
          rw [eg2]; unfold sm_T; rw [if_pos hS0]; first | rw [if_pos (by omega)] | rw [if_neg (by omega)]
        have hd0 : (du_n v (sm_T f v n b S 44 b) (sm_T f v n b S 45 b) S) = 0 := by rw [hS0]; rfl
        refine ab_F_of ⟨by rw [hd0]; rfl, ?_⟩
        rw [hd0]
        refine ⟨mt_same hS (by rw [eg2]; first | exact dm_row (by decide) | exact ii_up_row _ _ (by decide)) (by rw [eg2]; first | exact dm_row (by decide) | exact ii_up_row _ _ (by decide)), fun o2 _ _ => by rw [hF]; rfl, fun i _ => congrFun (by rw [eg2]; first | exact dm_row (by decide) | exact ii_up_row _ _ (by decide)) i, fun i _ => congrFun (by rw [eg2]; first | exact dm_row (by decide) | exact ii_up_row _ _ (by decide)) i⟩
      · skip
        refine a_aload_n C dX10_minute_76 rfl ?_
        refine a_iload_n C dX10_minute_77 rfl ?_
        refine a_aload_n C dX10_minute_78 rfl ?_
        refine a_get (ci := 11) (i := 6) (v := .ref (ad 46)) C iw_X10 rfl (by decide) rfl fl_X10_25 rfl rfl dX10_minute_79 ?_
        refine a_iload_n C dX10_minute_82 rfl ?_
        refine a_iald (o := 46) (N := 4) b C dX10_minute_83 rfl (by omega) (by omega) (by decide) ?_
        refine a_top (w := ii_v (f 46 b)) rfl ?_
        refine a_aload_n C dX10_minute_84 rfl ?_
        refine a_get (ci := 11) (i := 7) (v := .ref (ad 47)) C iw_X10 rfl (by decide) rfl fl_X10_28 rfl rfl dX10_minute_85 ?_
        refine a_iload_n C dX10_minute_88 rfl ?_
        refine a_iald (o := 47) (N := 4) b C dX10_minute_89 rfl (by omega) (by omega) (by decide) ?_
        refine a_top (w := ii_v (f 47 b)) rfl ?_
        refine a_callV (o := 40) (As := [ii_v ((b : Nat) : Int), ii_v (f 46 b), ii_v (f 47 b)]) C (m_drives hl f w b hb hB n hn hn30 hrid (f 46 b) (f 47 b) hB6 hB7) co_X10_drives in_X10 ml_X10_262 im_X10_drives se_X10_drives rfl rfl ar_X10_drives ⟨by decide, by decide, by decide, by decide⟩ rfl (Nat.le_of_ble_eq_true rfl) dX10_minute_90 (a_dV ?_) a_nV
        obtain ⟨g3, eg3⟩ : ∃ F : Nat → Nat → Int, F = dm_T f n b (f 46 b) (f 47 b) := ⟨_, rfl⟩
        rw [← eg3]
        refine a_goto (tgt := 119) C dX10_minute_93 rfl ?_
        refine a_iconst C dX10_minute_119 ?_
        refine a_iret C ?_ (by decide) (by decide) dX10_minute_120
        rw [hPost]
        have hF : g3 = sm_T f v n b S := by
          rw [eg3]; unfold sm_T; rw [if_pos hS0]; first | rw [if_pos (by omega)] | rw [if_neg (by omega)]
        have hd0 : (du_n v (sm_T f v n b S 44 b) (sm_T f v n b S 45 b) S) = 0 := by rw [hS0]; rfl
        refine ab_F_of ⟨by rw [hd0]; rfl, ?_⟩
        rw [hd0]
        refine ⟨mt_same hS (by rw [eg3]; first | exact dm_row (by decide) | exact ii_up_row _ _ (by decide)) (by rw [eg3]; first | exact dm_row (by decide) | exact ii_up_row _ _ (by decide)), fun o2 _ _ => by rw [hF]; rfl, fun i _ => congrFun (by rw [eg3]; first | exact dm_row (by decide) | exact ii_up_row _ _ (by decide)) i, fun i _ => congrFun (by rw [eg3]; first | exact dm_row (by decide) | exact ii_up_row _ _ (by decide)) i⟩
  · skip
    obtain ⟨q, hqe⟩ : ∃ q, S.getD 0 0 = q := ⟨_, rfl⟩
    have hqn : q / 2 ≤ 30 := by rw [← hqe]; exact hq 0 (by omega)
    have hq64 : q < 64 := by rw [← hqe]; exact hb64 0 (by omega)
    have qv := hv.1 q hqn
    have hS0 : S ≠ [] := fun z => by rw [z] at h6; exact h6 (by decide)
    have hnd0 : ¬ (f 44 b = v 0 q ∧ f 45 b = v 1 q) := by rw [← hqe]; exact du_hd hS0 hno
    have hsm : sm_T f v n b S = dm_T f n b (v 0 q) (v 1 q) := by unfold sm_T; rw [if_neg hS0, hqe]
    refine a_aload_n C dX10_minute_9 rfl ?_
    refine a_iload_n C dX10_minute_10 rfl ?_
    refine a_aload_n C dX10_minute_11 rfl ?_
    refine a_aload_n C dX10_minute_12 rfl ?_
    refine a_get (ci := 11) (i := 12) (v := .ref (ad 52)) C iw_X10 rfl (by decide) rfl fl_X10_43 rfl rfl dX10_minute_13 ?_
    refine a_bipush C dX10_minute_16 (by decide) ?_
    refine a_iload_n C dX10_minute_18 rfl ?_
    refine a_imul C dX10_minute_19 ?_
    refine a_iald (o := 52) (N := 32) (8 * b) C dX10_minute_20 rfl (by omega) (by omega) (by decide) ?_
    refine a_top (w := ii_v (f 52 (8 * b))) rfl ?_
    refine a_top (w := ii_v ((q : Nat) : Int)) (congrArg (fun q => ii_v q) ((hS.2.2.1 0 (by omega)).trans (by rw [hqe]))) ?_
    refine a_callV (o := 40) (As := [ii_v ((q : Nat) : Int)]) C (m_stopX hl f w hv q hqn) co_X10_stopX in_X10 ml_X10_147 im_X10_stopX se_X10_stopX rfl rfl ar_X10_stopX ⟨by decide, by decide, by decide, by decide⟩ rfl (Nat.le_of_ble_eq_true rfl) dX10_minute_21 (a_dR ?_) a_nR
    refine a_aload_n C dX10_minute_24 rfl ?_
    refine a_aload_n C dX10_minute_25 rfl ?_
    refine a_get (ci := 11) (i := 12) (v := .ref (ad 52)) C iw_X10 rfl (by decide) rfl fl_X10_43 rfl rfl dX10_minute_26 ?_
    refine a_bipush C dX10_minute_29 (by decide) ?_
    refine a_iload_n C dX10_minute_31 rfl ?_
    refine a_imul C dX10_minute_32 ?_
    refine a_iald (o := 52) (N := 32) (8 * b) C dX10_minute_33 rfl (by omega) (by omega) (by decide) ?_
    refine a_top (w := ii_v (f 52 (8 * b))) rfl ?_
    refine a_top (w := ii_v ((q : Nat) : Int)) (congrArg (fun q => ii_v q) ((hS.2.2.1 0 (by omega)).trans (by rw [hqe]))) ?_
    refine a_callV (o := 40) (As := [ii_v ((q : Nat) : Int)]) C (m_stopY hl f w hv q hqn) co_X10_stopY in_X10 ml_X10_150 im_X10_stopY se_X10_stopY rfl rfl ar_X10_stopY ⟨by decide, by decide, by decide, by decide⟩ rfl (Nat.le_of_ble_eq_true rfl) dX10_minute_34 (a_dR ?_) a_nR
    refine a_callV (o := 40) (As := [ii_v ((b : Nat) : Int), ii_v (v 0 q), ii_v (v 1 q)]) C (m_drives hl f w b hb hB n hn hn30 hrid (v 0 q) (v 1 q) qv.2.2.1 qv.2.2.2) co_X10_drives in_X10 ml_X10_262 im_X10_drives se_X10_drives rfl rfl ar_X10_drives ⟨by decide, by decide, by decide, by decide⟩ rfl (Nat.le_of_ble_eq_true rfl) dX10_minute_37 (a_dV ?_) a_nV
    obtain ⟨g4, eg4⟩ : ∃ F : Nat → Nat → Int, F = dm_T f n b (v 0 q) (v 1 q) := ⟨_, rfl⟩
    rw [← eg4]
    refine a_aload_n C dX10_minute_40 rfl ?_
    refine a_iload_n C dX10_minute_41 rfl ?_
    refine a_callV (o := 40) (As := [ii_v ((b : Nat) : Int)]) C (m_stopsAt hl g4 w b hb (by rw [eg4]; exact pj_same hv (fun o2 h => dm_row (by omega))) (by rw [eg4]; exact dm_pk hB hch qv.2.2.1 qv.2.2.2 hnd0) (mt_same hS (by rw [eg4]; exact dm_row (by decide)) (by rw [eg4]; exact dm_row (by decide))) hS6 hq (by rw [eg4, dm_row (by decide)]; exact hnow) e0 (by rw [eg4, dm_row (by decide)]; exact he) h60) co_X10_stopsAt in_X10 ml_X10_219 im_X10_stopsAt se_X10_stopsAt rfl rfl ar_X10_stopsAt ⟨by decide, by decide, by decide, by decide⟩ rfl (Nat.le_of_ble_eq_true rfl) dX10_minute_42 (a_dF ?_) a_nF
    intro vg5 g5 hvg5
    obtain ⟨rfl, hsg5, hfg5, hyg5, hzg5⟩ := hvg5
    rw [← hsm] at eg4
    subst eg4
    rw [hsm] at hyg5 hzg5
    refine a_iret C ?_ (by decide) (by decide) dX10_minute_45
    rw [hPost]
    exact ab_F_of ⟨rfl, hsg5, hfg5, fun i hi => (hyg5 i hi).trans (congrFun (dm_row (by decide)) i), fun i hi => (hzg5 i hi).trans (congrFun (dm_row (by decide)) i)⟩
