/-! Tours: their rows, and what the list of stops becomes. -/
theorem ls_idx {S : List Nat} {k v : Nat} (hk : k < S.length) (h : ((S.getD k 0 : Nat) : Int) = v) (hn : ∀ j, j < k → S.getD j 0 ≠ v) : (k : Int) = if v ∈ S then (S.idxOf v : Int) else -1 := by
  have h2 : S.getD k 0 = v := by omega
  have hm : v ∈ S := by
    rw [← h2]
    exact gd_mem hk
  rw [if_pos hm]
  have h4 : S.idxOf v ≤ k := gd_idx_le hk h2
  have h6 : ¬ S.idxOf v < k := fun q => hn _ q (gd_idx hm).2
  omega
theorem ls_nidx {S : List Nat} {v : Nat} (hn : ∀ j, j < S.length → S.getD j 0 ≠ v) : (-1 : Int) = if v ∈ S then (S.idxOf v : Int) else -1 := by
  have hm : v ∉ S := by
    intro h
    obtain ⟨i, hi, h2⟩ := gd_of_mem (d := 0) h
    exact hn i hi h2
  rw [if_neg hm]
theorem ts_add {f : Nat → Nat → Int} {t v : Nat} {S : List Nat} (h : ts_I f t S) (h8 : S.length < 8) (hv : v < 64) : ts_I (ii_up (ii_up f (t + 10) S.length v) t 1 ((S.length : Int) + 1)) t (S ++ [v]) := by
  obtain ⟨hc, -, hj, hb⟩ := h
  refine ⟨?_, ?_, fun j hlt => ?_, fun j hlt => ?_⟩
  · rw [ii_up_s, List.length_append]
    rfl
  · rw [List.length_append]
    exact h8
  · rw [List.length_append] at hlt
    rw [ii_up_o _ _ _ (by omega)]
    rcases Nat.lt_or_eq_of_le (Nat.le_of_lt_succ hlt) with q | q
    · rw [ii_up_k _ _ (by omega), hj j q, gd_app_l q]
    · subst q
      rw [ii_up_s, gd_app_r (Nat.le_refl _), Nat.sub_self]
      rfl
  · rw [List.length_append] at hlt
    rcases Nat.lt_or_eq_of_le (Nat.le_of_lt_succ hlt) with q | q
    · rw [gd_app_l q]
      exact hb j q
    · subst q
      rw [gd_app_r (Nat.le_refl _), Nat.sub_self]
      exact hv
set_option maxRecDepth 20000 in
set_option maxHeartbeats 2000000 in
theorem c_stopAt {l : Launch} {E : ab_E} {base : Nat} (hl : l.stackTraces = false) {ad : Nat → Nat} (f : Nat → Nat → Int) (w : Nat × Nat × Int64 × UInt64) {t : Nat} (ht : ab_ob 4 w.1 w.2.1 t = some (8, [some (t + 10), none])) (hta : ab_ar 4 w.1 (t + 10) = some (0, 8)) (cnt : Nat) (hc : f t 1 = (cnt : Int)) (h8 : cnt ≤ 8) (i : Int) (k : Nat) (hi : i = (k : Int)) (hk : k < cnt) : ab_M l E base yX7_stopAt cX7_stopAt 2 (some .int) 1 0 0 [.ref (ad t), ii_v i] ab_x4 ad (f, w) (ab_R (ii_v (f (t + 10) k)) ab_x4 ad (f, w)) := by
  obtain ⟨Post, hPost⟩ : ∃ P : ab_P, P = (ab_R (ii_v (f (t + 10) k)) ab_x4 ad (f, w)) := ⟨_, rfl⟩
  rw [← hPost]
  refine ab_of RX7 [(0, .ref (ad t)), (1, ii_v i)] hl (by decide) rfl (Nat.le_of_ble_eq_true rfl) rfl ?_
  intro p e s m args below meth c C T0 hnm
  refine a_iload_n C dX7_stopAt_0 rfl ?_
  refine a_if_lt (tgt := 30) C dX7_stopAt_1 rfl (by unfold ii_B; omega) (fun h1 => ?_) (fun h1 => ?_)
  · skip
    omega
  · skip
    refine a_iload_n C dX7_stopAt_4 rfl ?_
    refine a_aload_n C dX7_stopAt_5 rfl ?_
    refine a_get (ci := 8) (i := 1) (v := ii_v (f t 1)) C iw_X7 rfl (by decide) rfl fl_X7_15 ht rfl dX7_stopAt_6 ?_
    refine a_icmp_ge (tgt := 30) C dX7_stopAt_9 rfl (by unfold ii_B; omega) (by unfold ii_B; omega) (fun h9 => ?_) (fun h9 => ?_)
    · skip
      omega
    · skip
      refine a_iload_n C dX7_stopAt_12 rfl ?_
      refine a_aload_n C dX7_stopAt_13 rfl ?_
      refine a_get (ci := 8) (i := 0) (v := .ref (ad (t + 10))) C iw_X7 rfl (by decide) rfl fl_X7_9 ht rfl dX7_stopAt_14 ?_
      refine a_alen (o := t + 10) (N := 8) C dX7_stopAt_17 hta (Or.inl rfl) ?_
      refine a_icmp_ge (tgt := 30) C dX7_stopAt_18 rfl (by unfold ii_B; omega) (by unfold ii_B; omega) (fun h18 => ?_) (fun h18 => ?_)
      · skip
        omega
      · skip
        refine a_aload_n C dX7_stopAt_21 rfl ?_
        refine a_get (ci := 8) (i := 0) (v := .ref (ad (t + 10))) C iw_X7 rfl (by decide) rfl fl_X7_9 ht rfl dX7_stopAt_22 ?_
        refine a_iload_n C dX7_stopAt_25 rfl ?_
        refine a_iald (o := t + 10) (N := 8) k C dX7_stopAt_26 hta (by omega) (by omega) (by decide) ?_
        refine a_goto (tgt := 31) C dX7_stopAt_27 rfl ?_
        refine a_iret C ?_ (by decide) (by decide) dX7_stopAt_31
        rw [hPost]
        exact ⟨rfl, rfl, rfl, rfl⟩
set_option maxRecDepth 20000 in
set_option maxHeartbeats 2000000 in
theorem c_set {l : Launch} {E : ab_E} {base : Nat} (hl : l.stackTraces = false) {ad : Nat → Nat} (f : Nat → Nat → Int) (w : Nat × Nat × Int64 × UInt64) {t : Nat} (ht : ab_ob 4 w.1 w.2.1 t = some (8, [some (t + 10), none])) (hta : ab_ar 4 w.1 (t + 10) = some (0, 8)) (i v : Int) (k : Nat) (hi : i = (k : Int)) (hk : k < 8) : ab_M l E base yX7_set cX7_set 3 none 1 0 0 [.ref (ad t), ii_v i, ii_v v] ab_x4 ad (f, w) (ab_V ab_x4 ad (ii_up f (t + 10) k v, w)) := by
  obtain ⟨Post, hPost⟩ : ∃ P : ab_P, P = (ab_V ab_x4 ad (ii_up f (t + 10) k v, w)) := ⟨_, rfl⟩
  rw [← hPost]
  refine ab_of RX7 [(0, .ref (ad t)), (1, ii_v i), (2, ii_v v)] hl (by decide) rfl (Nat.le_of_ble_eq_true rfl) rfl ?_
  intro p e s m args below meth c C T0 hnm
  refine a_iload_n C dX7_set_0 rfl ?_
  refine a_if_lt (tgt := 20) C dX7_set_1 rfl (by unfold ii_B; omega) (fun h1 => ?_) (fun h1 => ?_)
  · skip
    omega
  · skip
    refine a_iload_n C dX7_set_4 rfl ?_
    refine a_aload_n C dX7_set_5 rfl ?_
    refine a_get (ci := 8) (i := 0) (v := .ref (ad (t + 10))) C iw_X7 rfl (by decide) rfl fl_X7_9 ht rfl dX7_set_6 ?_
    refine a_alen (o := t + 10) (N := 8) C dX7_set_9 hta (Or.inl rfl) ?_
    refine a_icmp_ge (tgt := 20) C dX7_set_10 rfl (by unfold ii_B; omega) (by unfold ii_B; omega) (fun h10 => ?_) (fun h10 => ?_)
    · skip
      omega
    · skip
      refine a_aload_n C dX7_set_13 rfl ?_
      refine a_get (ci := 8) (i := 0) (v := .ref (ad (t + 10))) C iw_X7 rfl (by decide) rfl fl_X7_9 ht rfl dX7_set_14 ?_
      refine a_iload_n C dX7_set_17 rfl ?_
      refine a_iload_n C dX7_set_18 rfl ?_
      refine a_iast (o := t + 10) (N := 8) k C dX7_set_19 hta (by omega) (by omega) (by decide) ?_
      obtain ⟨g1, eg1⟩ : ∃ F : Nat → Nat → Int, F = ii_up f (t + 10) k v := ⟨_, rfl⟩
      rw [← eg1]
      refine a_vret C ?_ (by decide) (by decide) dX7_set_20
      rw [hPost]
      rw [eg1]
      exact ⟨rfl, rfl, rfl, rfl⟩
set_option maxRecDepth 20000 in
set_option maxHeartbeats 2000000 in
theorem c_indexOf {l : Launch} {E : ab_E} {base : Nat} (hl : l.stackTraces = false) {ad : Nat → Nat} (f : Nat → Nat → Int) (w : Nat × Nat × Int64 × UInt64) {t : Nat} (ht : ab_ob 4 w.1 w.2.1 t = some (8, [some (t + 10), none])) (hta : ab_ar 4 w.1 (t + 10) = some (0, 8)) {S : List Nat} (hS : ts_I f t S) (v : Nat) (hv : v < 64) : ab_M l E base yX7_indexOf cX7_indexOf 3 (some .int) 2 0 0 [.ref (ad t), ii_v ((v : Nat) : Int)] ab_x4 ad (f, w) (ab_R (ii_v (if v ∈ S then (S.idxOf v : Int) else -1)) ab_x4 ad (f, w)) := by
  obtain ⟨Post, hPost⟩ : ∃ P : ab_P, P = (ab_R (ii_v (if v ∈ S then (S.idxOf v : Int) else -1)) ab_x4 ad (f, w)) := ⟨_, rfl⟩
  rw [← hPost]
  refine ab_of RX7 [(0, .ref (ad t)), (1, ii_v ((v : Nat) : Int))] hl (by decide) rfl (Nat.le_of_ble_eq_true rfl) rfl ?_
  intro p e s m args below meth c C T0 hnm
  obtain ⟨hc, h8, hj, hb⟩ := id hS
  refine a_iconst C dX7_indexOf_0 ?_
  refine a_istore_n (L' := [(0, .ref (ad t)), (1, ii_v ((v : Nat) : Int)), (2, ii_v 0)]) C dX7_indexOf_1 (by decide) rfl ?_
  have loop2 : ∀ (NN : Nat) (k : Nat), S.length - k < NN → (k ≤ S.length) → (∀ j, j < k → S.getD j 0 ≠ v) → ab_W p l e (ab_rm 2 0 0) s m args below meth c E base 3 (ab_Q below E base Post args s 0 0) ab_x4 ad (f, w) 0 0 2 [(0, .ref (ad t)), (1, ii_v ((v : Nat) : Int)), (2, ii_v ((k : Nat) : Int))] [] := by
    intro NN
    induction NN with
    | zero => intro k hNN; exact absurd hNN (Nat.not_lt_zero _)
    | succ NN ih =>
      intro k hNN hk hn
      refine a_iload_n C dX7_indexOf_2 rfl ?_
      refine a_aload_n C dX7_indexOf_3 rfl ?_
      refine a_get (ci := 8) (i := 1) (v := ii_v (f t 1)) C iw_X7 rfl (by decide) rfl fl_X7_15 ht rfl dX7_indexOf_4 ?_
      refine a_icmp_ge (tgt := 27) C dX7_indexOf_7 rfl (by unfold ii_B; omega) (by unfold ii_B; omega) (fun h7 => ?_) (fun h7 => ?_)
      · skip
        refine a_iconst C dX7_indexOf_27 ?_
        refine a_iret C ?_ (by decide) (by decide) dX7_indexOf_28
        rw [hPost]
        exact ⟨rt_i (ls_nidx (fun j h => hn j (by omega))), rfl, rfl, rfl⟩
      · skip
        refine a_aload_n C dX7_indexOf_10 rfl ?_
        refine a_iload_n C dX7_indexOf_11 rfl ?_
        refine a_callV (o := t) (As := [ii_v ((k : Nat) : Int)]) C (c_stopAt hl f w ht hta S.length hc h8 ((k : Nat) : Int) k (by omega) (by omega)) co_X7_stopAt in_X7 ml_X7_19 im_X7_stopAt se_X7_stopAt rfl ht ar_X7_stopAt ⟨by decide, by decide, by decide, by decide⟩ rfl (Nat.le_of_ble_eq_true rfl) dX7_indexOf_12 (a_dR ?_) a_nR
        have q1 := hj k (by omega)
        have q2 := hb k (by omega)
        refine a_iload_n C dX7_indexOf_15 rfl ?_
        refine a_icmp_ne (tgt := 21) C dX7_indexOf_16 rfl (by unfold ii_B; omega) (by unfold ii_B; omega) (fun h16 => ?_) (fun h16 => ?_)
        · skip
          refine a_iinc (L' := [(0, .ref (ad t)), (1, ii_v ((v : Nat) : Int)), (2, ii_v (((k : Nat) : Int) + 1))]) C dX7_indexOf_21 rfl (by decide) rfl ?_
          refine a_goto (tgt := 2) C dX7_indexOf_24 rfl ?_
          exact ih (k + 1) (by omega) (by omega) (lt_s hn (fun q => h16 (by omega)))
        · skip
          refine a_iload_n C dX7_indexOf_19 rfl ?_
          refine a_iret C ?_ (by decide) (by decide) dX7_indexOf_20
          rw [hPost]
          exact ⟨rt_i (ls_idx (by omega) (by omega) hn), rfl, rfl, rfl⟩
  exact loop2 (_ + 1) 0 (Nat.lt_succ_self _) (Nat.zero_le _) (fun j h => absurd h (Nat.not_lt_zero j))
set_option maxRecDepth 20000 in
set_option maxHeartbeats 2000000 in
theorem c_add {l : Launch} {E : ab_E} {base : Nat} (hl : l.stackTraces = false) {ad : Nat → Nat} (f : Nat → Nat → Int) (w : Nat × Nat × Int64 × UInt64) {t : Nat} (ht : ab_ob 4 w.1 w.2.1 t = some (8, [some (t + 10), none])) (hta : ab_ar 4 w.1 (t + 10) = some (0, 8)) {S : List Nat} (hS : ts_I f t S) (hl8 : S.length < 8) (v : Nat) (hv : v < 64) : ab_M l E base yX7_add cX7_add 2 none 2 0 0 [.ref (ad t), ii_v ((v : Nat) : Int)] ab_x4 ad (f, w) (ab_F ad w (fun r g => r = none ∧ ts_I g t (S ++ [v]) ∧ ∀ o, o ≠ t → o ≠ t + 10 → g o = f o)) := by
  obtain ⟨Post, hPost⟩ : ∃ P : ab_P, P = (ab_F ad w (fun r g => r = none ∧ ts_I g t (S ++ [v]) ∧ ∀ o, o ≠ t → o ≠ t + 10 → g o = f o)) := ⟨_, rfl⟩
  rw [← hPost]
  refine ab_of RX7 [(0, .ref (ad t)), (1, ii_v ((v : Nat) : Int))] hl (by decide) rfl (Nat.le_of_ble_eq_true rfl) rfl ?_
  intro p e s m args below meth c C T0 hnm
  obtain ⟨hc, h8, hj, hb⟩ := id hS
  refine a_aload_n C dX7_add_0 rfl ?_
  refine a_get (ci := 8) (i := 1) (v := ii_v (f t 1)) C iw_X7 rfl (by decide) rfl fl_X7_15 ht rfl dX7_add_1 ?_
  refine a_aload_n C dX7_add_4 rfl ?_
  refine a_get (ci := 8) (i := 0) (v := .ref (ad (t + 10))) C iw_X7 rfl (by decide) rfl fl_X7_9 ht rfl dX7_add_5 ?_
  refine a_alen (o := t + 10) (N := 8) C dX7_add_8 hta (Or.inl rfl) ?_
  refine a_icmp_ge (tgt := 31) C dX7_add_9 rfl (by unfold ii_B; omega) (by unfold ii_B; omega) (fun h9 => ?_) (fun h9 => ?_)
  · skip
    omega
  · skip
    refine a_aload_n C dX7_add_12 rfl ?_
    refine a_aload_n C dX7_add_13 rfl ?_
    refine a_get (ci := 8) (i := 1) (v := ii_v (f t 1)) C iw_X7 rfl (by decide) rfl fl_X7_15 ht rfl dX7_add_14 ?_
    refine a_iload_n C dX7_add_17 rfl ?_
    refine a_callV (o := t) (As := [ii_v (f t 1), ii_v ((v : Nat) : Int)]) C (c_set hl f w ht hta (f t 1) ((v : Nat) : Int) S.length (by omega) (by omega)) co_X7_set in_X7 ml_X7_23 im_X7_set se_X7_set rfl ht ar_X7_set ⟨by decide, by decide, by decide, by decide⟩ rfl (Nat.le_of_ble_eq_true rfl) dX7_add_18 (a_dV ?_) a_nV
    obtain ⟨g1, eg1⟩ : ∃ F : Nat → Nat → Int, F = ii_up f (t + 10) S.length ((v : Nat) : Int) := ⟨_, rfl⟩
    rw [← eg1]
    have q1 : g1 t 1 = S.length := by rw [eg1, ii_up_o _ _ _ (by omega)]; exact hc
    refine a_aload_n C dX7_add_21 rfl ?_
    refine a_dup C dX7_add_22 rfl ?_
    refine a_get (ci := 8) (i := 1) (v := ii_v (g1 t 1)) C iw_X7 rfl (by decide) rfl fl_X7_15 ht rfl dX7_add_23 ?_
    rw [q1]
    refine a_iconst C dX7_add_26 ?_
    refine a_iadd C dX7_add_27 ?_
    refine a_put (ci := 8) (i := 1) C iw_X7 rfl (by decide) rfl tyX7 tyX7_ok nmX7 rfl rfl fl_X7_15 ht rfl rfl rfl dX7_add_28 ?_
    obtain ⟨g2, eg2⟩ : ∃ F : Nat → Nat → Int, F = ii_up g1 t 1 ((S.length : Int) + 1) := ⟨_, rfl⟩
    rw [← eg2]
    refine a_vret C ?_ (by decide) (by decide) dX7_add_31
    rw [hPost]
    subst eg2
    subst eg1
    refine ab_F_of ⟨rfl, ts_add hS hl8 hv, ?_⟩
    intro o h1 h2
    rw [ii_up_row _ _ h1, ii_up_row _ _ h2]
