/-! Constructors. -/
set_option maxRecDepth 20000 in
set_option maxHeartbeats 4000000 in
theorem i_acol {l : Launch} {E : ab_E} {base : Nat} (hl : l.stackTraces = false) (cw : Nat → Option va_E) (a : Nat) (k_a : cw a = some (.inr (0, [ii_v 0, .null, ii_v 0]))) : aw_M l E base yJxa1e45_init_da8c8 cJxa1e45_init_da8c8 1 none 2 0 0 [.ref a] cw (fun v c1 => v = none ∧ c1 a = some (.inr (0, [ii_v 0, .null, ii_v 0])) ∧ ∀ b : Nat, b ≠ a → c1 b = cw b) := by
  obtain ⟨Post, hPost⟩ : ∃ P : Option Value → (Nat → Option va_E) → Prop, P = (fun v c1 => v = none ∧ c1 a = some (.inr (0, [ii_v 0, .null, ii_v 0])) ∧ ∀ b : Nat, b ≠ a → c1 b = cw b) := ⟨_, rfl⟩
  rw [← hPost]
  refine aw_of RJxa1e45 [(0, .ref a)] hl (by decide) rfl (Nat.le_of_ble_eq_true rfl) rfl ?_
  intro p e s m args below meth c C hnm
  refine w_aload_n C dJxa1e45_init_da8c8_0 rfl ?_
  refine w_oinit C ml_Jxa1e45_1 dJxa1e45_init_da8c8_1 (by decide) (Nat.le_of_ble_eq_true rfl) ?_
  refine w_vret C ?_ (by omega) (by omega) dJxa1e45_init_da8c8_4
  rw [hPost]
  exact ⟨rfl, k_a, fun b _ => rfl⟩
set_option maxRecDepth 20000 in
set_option maxHeartbeats 4000000 in
theorem i_alist {l : Launch} {E : ab_E} {base : Nat} (hl : l.stackTraces = false) (cw : Nat → Option va_E) (a : Nat) (k_a : cw a = some (.inr (0, [ii_v 0, .null, ii_v 0]))) : aw_M l E base yJxc12de_init_da8c8 cJxc12de_init_da8c8 1 none 3 0 0 [.ref a] cw (fun v c1 => v = none ∧ c1 a = some (.inr (0, [ii_v 0, .null, ii_v 0])) ∧ ∀ b : Nat, b ≠ a → c1 b = cw b) := by
  obtain ⟨Post, hPost⟩ : ∃ P : Option Value → (Nat → Option va_E) → Prop, P = (fun v c1 => v = none ∧ c1 a = some (.inr (0, [ii_v 0, .null, ii_v 0])) ∧ ∀ b : Nat, b ≠ a → c1 b = cw b) := ⟨_, rfl⟩
  rw [← hPost]
  refine aw_of RJxc12de [(0, .ref a)] hl (by decide) rfl (Nat.le_of_ble_eq_true rfl) rfl ?_
  intro p e s m args below meth c C hnm
  refine w_aload_n C dJxc12de_init_da8c8_0 rfl ?_
  refine w_callI (b := a) (As := []) C (i_acol hl cw a k_a) co_Jxa1e45_init_da8c8 in_Jxa1e45 ml_Jxc12de_1 im_Jxa1e45_init_da8c8 rfl ar_Jxa1e45_init_da8c8 ⟨by decide, by decide, by omega, by omega⟩ rfl (Nat.le_of_ble_eq_true rfl) dJxc12de_init_da8c8_1 ?_
  intro v_w1_0 w1_0 z_w1_0
  obtain ⟨rfl, n_w1_0_a, f_w1_0⟩ := z_w1_0
  replace k_a := n_w1_0_a
  refine w_vd ?_
  refine w_aload_n C dJxc12de_init_da8c8_4 rfl ?_
  refine w_iconst C dJxc12de_init_da8c8_5 ?_
  refine w_put (ci := 0) (i := 0) C iw_Jx4a65c rfl (by decide) (Or.inl rfl) tyJx4a65c tyJx4a65c_ok nmJx4a65c rfl rfl fl_Jxc12de_7 k_a (Nat.le_of_ble_eq_true rfl) rfl rfl dJxc12de_init_da8c8_6 ?_
  obtain ⟨w2_1, e_w2_1⟩ : ∃ x : Nat → Option va_E, x = aw_up w1_0 a (.inr (0, [ii_v 0, .null, ii_v 0].set 0 (ii_v 0))) := ⟨_, rfl⟩
  rw [← e_w2_1]
  replace k_a : w2_1 a = some (.inr (0, [ii_v 0, .null, ii_v 0])) := by rw [e_w2_1]; exact aw_up_s _ _ _
  refine w_vret C ?_ (by omega) (by omega) dJxc12de_init_da8c8_9
  rw [hPost]
  exact ⟨rfl, k_a, fun b h_a => by rw [e_w2_1, aw_up_o _ h_a, f_w1_0 b h_a]⟩
set_option maxRecDepth 20000 in
set_option maxHeartbeats 4000000 in
theorem i_list {l : Launch} {E : ab_E} {base : Nat} (hl : l.stackTraces = false) (cw : Nat → Option va_E) (a : Nat) (k_a : cw a = some (.inr (0, [ii_v 0, .null, ii_v 0]))) : aw_M l E base yJx4a65c_init_da8c8 cJx4a65c_init_da8c8 1 none 4 0 0 [.ref a] cw (fun v c1 => v = none ∧ c1 a = some (.inr (0, [ii_v 0, .ref E.2.2, ii_v 0])) ∧ ∀ b : Nat, b ≠ a → c1 b = cw b) := by
  obtain ⟨Post, hPost⟩ : ∃ P : Option Value → (Nat → Option va_E) → Prop, P = (fun v c1 => v = none ∧ c1 a = some (.inr (0, [ii_v 0, .ref E.2.2, ii_v 0])) ∧ ∀ b : Nat, b ≠ a → c1 b = cw b) := ⟨_, rfl⟩
  rw [← hPost]
  refine aw_of RJx4a65c [(0, .ref a)] hl (by decide) rfl (Nat.le_of_ble_eq_true rfl) rfl ?_
  intro p e s m args below meth c C hnm
  refine w_aload_n C dJx4a65c_init_da8c8_0 rfl ?_
  refine w_callI (b := a) (As := []) C (i_alist hl cw a k_a) co_Jxc12de_init_da8c8 in_Jxc12de ml_Jx4a65c_1 im_Jxc12de_init_da8c8 rfl ar_Jxc12de_init_da8c8 ⟨by decide, by decide, by omega, by omega⟩ rfl (Nat.le_of_ble_eq_true rfl) dJx4a65c_init_da8c8_1 ?_
  intro v_w1_0 w1_0 z_w1_0
  obtain ⟨rfl, n_w1_0_a, f_w1_0⟩ := z_w1_0
  replace k_a := n_w1_0_a
  refine w_vd ?_
  refine w_aload_n C dJx4a65c_init_da8c8_4 rfl ?_
  refine w_eget C fl_Jx4a65c_39 dJx4a65c_init_da8c8_5 ?_
  refine w_put (ci := 0) (i := 1) C iw_Jx4a65c rfl (by decide) (Or.inl rfl) tyJx4a65c tyJx4a65c_ok nmJx4a65c rfl rfl fl_Jx4a65c_9 k_a (Nat.le_of_ble_eq_true rfl) rfl rfl dJx4a65c_init_da8c8_8 ?_
  obtain ⟨w2_1, e_w2_1⟩ : ∃ x : Nat → Option va_E, x = aw_up w1_0 a (.inr (0, [ii_v 0, .null, ii_v 0].set 1 (.ref E.2.2))) := ⟨_, rfl⟩
  rw [← e_w2_1]
  replace k_a : w2_1 a = some (.inr (0, [ii_v 0, .ref E.2.2, ii_v 0])) := by rw [e_w2_1]; exact aw_up_s _ _ _
  refine w_vret C ?_ (by omega) (by omega) dJx4a65c_init_da8c8_11
  rw [hPost]
  exact ⟨rfl, k_a, fun b h_a => by rw [e_w2_1, aw_up_o _ h_a, f_w1_0 b h_a]⟩
set_option maxRecDepth 20000 in
set_option maxHeartbeats 4000000 in
theorem i_tour {l : Launch} {E : ab_E} {base : Nat} (hl : l.stackTraces = false) (cw : Nat → Option va_E) (a : Nat)  (k_a : cw a = some (.inr (8, [.null, ii_v 0]))) : aw_M l E base yX7_init cX7_init 1 none 2 1 8 [.ref a] cw (fun v c1 => v = none ∧ ∃ q1 : Nat, aw_top cw q1 ∧ c1 q1 = some (aw_ia E 8) ∧ c1 a = some (.inr (8, [.ref q1, ii_v 0])) ∧ ∀ b : Nat, b ≠ a → b ≠ q1 → c1 b = cw b) := by
  obtain ⟨Post, hPost⟩ : ∃ P : Option Value → (Nat → Option va_E) → Prop, P = (fun v c1 => v = none ∧ ∃ q1 : Nat, aw_top cw q1 ∧ c1 q1 = some (aw_ia E 8) ∧ c1 a = some (.inr (8, [.ref q1, ii_v 0])) ∧ ∀ b : Nat, b ≠ a → b ≠ q1 → c1 b = cw b) := ⟨_, rfl⟩
  rw [← hPost]
  refine aw_of RX7 [(0, .ref a)] hl (by decide) rfl (Nat.le_of_ble_eq_true rfl) rfl ?_
  intro p e s m args below meth c C hnm
  refine w_aload_n C dX7_init_0 rfl ?_
  refine w_oinit C ml_X7_3 dX7_init_1 (by decide) (Nat.le_of_ble_eq_true rfl) ?_
  refine w_aload_n C dX7_init_4 rfl ?_
  refine w_bipush C dX7_init_5 (by decide) ?_
  refine w_newi (N := 8) C rfl (by decide) (by omega) dX7_init_7 ?_
  intro q1 t_q1
  have l_a_q1 : a < q1 := t_q1 _ _ k_a
  have t0 : aw_top cw q1 := fun b e h => t_q1 b _ (by skip; exact h)
  obtain ⟨w1_0, e_w1_0⟩ : ∃ x : Nat → Option va_E, x = aw_up cw q1 (aw_ia E 8) := ⟨_, rfl⟩
  rw [← e_w1_0]
  replace k_a : w1_0 a = some (.inr (8, [.null, ii_v 0])) := by rw [e_w1_0, aw_up_o _ (by omega)]; exact k_a
  have k_q1 : w1_0 q1 = some (aw_ia E 8) := by rw [e_w1_0]; exact aw_up_s _ _ _
  refine w_putF (ci := 8) (i := 0) C iw_X7 rfl (by decide) rfl tyX7 tyX7_ok nmX7 rfl hnm rfl fl_X7_9 k_a (Nat.le_of_ble_eq_true rfl) rfl rfl dX7_init_9 ?_
  obtain ⟨w2_1, e_w2_1⟩ : ∃ x : Nat → Option va_E, x = aw_up w1_0 a (.inr (8, [.null, ii_v 0].set 0 (.ref q1))) := ⟨_, rfl⟩
  rw [← e_w2_1]
  replace k_q1 : w2_1 q1 = some (aw_ia E 8) := by rw [e_w2_1, aw_up_o _ (by omega)]; exact k_q1
  replace k_a : w2_1 a = some (.inr (8, [.ref q1, ii_v 0])) := by rw [e_w2_1]; exact aw_up_s _ _ _
  refine w_vret C ?_ (by omega) (by omega) dX7_init_12
  rw [hPost]
  exact ⟨rfl, q1, t0, k_q1, k_a, fun b h_a h_q1 => by rw [e_w2_1, aw_up_o _ h_a, e_w1_0, aw_up_o _ h_q1]⟩
set_option maxRecDepth 20000 in
set_option maxHeartbeats 4000000 in
theorem i_req {l : Launch} {E : ab_E} {base : Nat} (hl : l.stackTraces = false) (cw : Nat → Option va_E) (a : Nat)  (k_a : cw a = some (.inr (7, [ii_v 0, ii_v 0, ii_v 0, ii_v 0, ii_v 0, ii_v 0, ii_v 0, ii_v 0, ii_v 0, ii_v 0, ii_v 0, ii_v 0, ii_v 0]))) : aw_M l E base yX6_init cX6_init 1 none 2 0 0 [.ref a] cw (fun v c1 => v = none ∧ c1 a = some (.inr (7, [ii_v 0, ii_v 0, ii_v 0, ii_v 0, ii_v 0, ii_v 0, ii_v 0, ii_v 0, ii_v 0, ii_v 0, ii_v (-1), ii_v 0, ii_v 0])) ∧ ∀ b : Nat, b ≠ a → c1 b = cw b) := by
  obtain ⟨Post, hPost⟩ : ∃ P : Option Value → (Nat → Option va_E) → Prop, P = (fun v c1 => v = none ∧ c1 a = some (.inr (7, [ii_v 0, ii_v 0, ii_v 0, ii_v 0, ii_v 0, ii_v 0, ii_v 0, ii_v 0, ii_v 0, ii_v 0, ii_v (-1), ii_v 0, ii_v 0])) ∧ ∀ b : Nat, b ≠ a → c1 b = cw b) := ⟨_, rfl⟩
  rw [← hPost]
  refine aw_of RX6 [(0, .ref a)] hl (by decide) rfl (Nat.le_of_ble_eq_true rfl) rfl ?_
  intro p e s m args below meth c C hnm
  refine w_aload_n C dX6_init_0 rfl ?_
  refine w_oinit C ml_X6_3 dX6_init_1 (by decide) (Nat.le_of_ble_eq_true rfl) ?_
  refine w_aload_n C dX6_init_4 rfl ?_
  refine w_iconst C dX6_init_5 ?_
  refine w_put (ci := 7) (i := 10) C iw_X6 rfl (by decide) (Or.inl rfl) tyX6 tyX6_ok nmX6 rfl rfl fl_X6_9 k_a (Nat.le_of_ble_eq_true rfl) rfl rfl dX6_init_6 ?_
  obtain ⟨w1_0, e_w1_0⟩ : ∃ x : Nat → Option va_E, x = aw_up cw a (.inr (7, [ii_v 0, ii_v 0, ii_v 0, ii_v 0, ii_v 0, ii_v 0, ii_v 0, ii_v 0, ii_v 0, ii_v 0, ii_v 0, ii_v 0, ii_v 0].set 10 (ii_v (-1)))) := ⟨_, rfl⟩
  rw [← e_w1_0]
  replace k_a : w1_0 a = some (.inr (7, [ii_v 0, ii_v 0, ii_v 0, ii_v 0, ii_v 0, ii_v 0, ii_v 0, ii_v 0, ii_v 0, ii_v 0, ii_v (-1), ii_v 0, ii_v 0])) := by rw [e_w1_0]; exact aw_up_s _ _ _
  refine w_vret C ?_ (by omega) (by omega) dX6_init_9
  rw [hPost]
  exact ⟨rfl, k_a, fun b h_a => by rw [e_w1_0, aw_up_o _ h_a]⟩
set_option maxRecDepth 20000 in
set_option maxHeartbeats 4000000 in
theorem i_book {l : Launch} {E : ab_E} {base : Nat} (hl : l.stackTraces = false) (cw : Nat → Option va_E) (a : Nat)  (k_a : cw a = some (.inr (1, [.null, .null]))) : aw_M l E base yX0_init cX0_init 1 none 5 2 16 [.ref a] cw (fun v c1 => v = none ∧ ∃ q1 q2 : Nat, aw_top cw q1 ∧ q1 < q2 ∧ c1 q1 = some (.inr (0, [ii_v 0, .ref E.2.2, ii_v 0])) ∧ c1 q2 = some (.inr (7, [ii_v 0, ii_v 0, ii_v 0, ii_v 0, ii_v 0, ii_v 0, ii_v 0, ii_v 0, ii_v 0, ii_v 0, ii_v (-1), ii_v 0, ii_v 0])) ∧ c1 a = some (.inr (1, [.ref q1, .ref q2])) ∧ ∀ b : Nat, b ≠ a → b ≠ q1 → b ≠ q2 → c1 b = cw b) := by
  obtain ⟨Post, hPost⟩ : ∃ P : Option Value → (Nat → Option va_E) → Prop, P = (fun v c1 => v = none ∧ ∃ q1 q2 : Nat, aw_top cw q1 ∧ q1 < q2 ∧ c1 q1 = some (.inr (0, [ii_v 0, .ref E.2.2, ii_v 0])) ∧ c1 q2 = some (.inr (7, [ii_v 0, ii_v 0, ii_v 0, ii_v 0, ii_v 0, ii_v 0, ii_v 0, ii_v 0, ii_v 0, ii_v 0, ii_v (-1), ii_v 0, ii_v 0])) ∧ c1 a = some (.inr (1, [.ref q1, .ref q2])) ∧ ∀ b : Nat, b ≠ a → b ≠ q1 → b ≠ q2 → c1 b = cw b) := ⟨_, rfl⟩
  rw [← hPost]
  refine aw_of RX0 [(0, .ref a)] hl (by decide) rfl (Nat.le_of_ble_eq_true rfl) rfl ?_
  intro p e s m args below meth c C hnm
  refine w_aload_n C dX0_init_0 rfl ?_
  refine w_oinit C ml_X0_1 dX0_init_1 (by decide) (Nat.le_of_ble_eq_true rfl) ?_
  refine w_aload_n C dX0_init_4 rfl ?_
  refine w_new (ci := 0) (fs := [ii_v 0, .null, ii_v 0]) C iw_Jx4a65c rfl tyJx4a65c tyJx4a65c_ok cl_X0_7 it_Jx4a65c in_Jx4a65c (fun j hj => by rcases (show j = 0 ∨ j = 1 ∨ j = 2 by omega) with rfl | rfl | rfl <;> rfl) (by omega) dX0_init_5 ?_
  intro q1 t_q1
  have l_a_q1 : a < q1 := t_q1 _ _ k_a
  have t0 : aw_top cw q1 := fun b e h => t_q1 b _ (by skip; exact h)
  obtain ⟨w1_0, e_w1_0⟩ : ∃ x : Nat → Option va_E, x = aw_up cw q1 (.inr (0, [ii_v 0, .null, ii_v 0])) := ⟨_, rfl⟩
  rw [← e_w1_0]
  replace k_a : w1_0 a = some (.inr (1, [.null, .null])) := by rw [e_w1_0, aw_up_o _ (by omega)]; exact k_a
  have k_q1 : w1_0 q1 = some (.inr (0, [ii_v 0, .null, ii_v 0])) := by rw [e_w1_0]; exact aw_up_s _ _ _
  refine w_dup C dX0_init_8 rfl ?_
  refine w_callI (b := q1) (As := []) C (i_list hl w1_0 q1 k_q1) co_Jx4a65c_init_da8c8 in_Jx4a65c ml_X0_9 im_Jx4a65c_init_da8c8 rfl ar_Jx4a65c_init_da8c8 ⟨by decide, by decide, by omega, by omega⟩ rfl (Nat.le_of_ble_eq_true rfl) dX0_init_9 ?_
  intro v_w2_1 w2_1 z_w2_1
  obtain ⟨rfl, n_w2_1_q1, f_w2_1⟩ := z_w2_1
  replace k_a : w2_1 a = some (.inr (1, [.null, .null])) := by rw [f_w2_1 _ (by omega)]; exact k_a
  replace k_q1 := n_w2_1_q1
  refine w_vd ?_
  refine w_putF (ci := 1) (i := 0) C iw_X0 rfl (by decide) rfl tyX0 tyX0_ok nmX0 rfl hnm rfl fl_X0_10 k_a (Nat.le_of_ble_eq_true rfl) rfl rfl dX0_init_12 ?_
  obtain ⟨w3_2, e_w3_2⟩ : ∃ x : Nat → Option va_E, x = aw_up w2_1 a (.inr (1, [.null, .null].set 0 (.ref q1))) := ⟨_, rfl⟩
  rw [← e_w3_2]
  replace k_q1 : w3_2 q1 = some (.inr (0, [ii_v 0, .ref E.2.2, ii_v 0])) := by rw [e_w3_2, aw_up_o _ (by omega)]; exact k_q1
  replace k_a : w3_2 a = some (.inr (1, [.ref q1, .null])) := by rw [e_w3_2]; exact aw_up_s _ _ _
  refine w_aload_n C dX0_init_15 rfl ?_
  refine w_new (ci := 7) (fs := [ii_v 0, ii_v 0, ii_v 0, ii_v 0, ii_v 0, ii_v 0, ii_v 0, ii_v 0, ii_v 0, ii_v 0, ii_v 0, ii_v 0, ii_v 0]) C iw_X6 rfl tyX6 tyX6_ok cl_X0_16 it_X6 in_X6 (fun j hj => by rcases (show j = 0 ∨ j = 1 ∨ j = 2 ∨ j = 3 ∨ j = 4 ∨ j = 5 ∨ j = 6 ∨ j = 7 ∨ j = 8 ∨ j = 9 ∨ j = 10 ∨ j = 11 ∨ j = 12 by omega) with rfl | rfl | rfl | rfl | rfl | rfl | rfl | rfl | rfl | rfl | rfl | rfl | rfl <;> rfl) (by omega) dX0_init_16 ?_
  intro q2 t_q2
  have l_q1_q2 : q1 < q2 := t_q2 _ _ k_q1
  obtain ⟨w4_3, e_w4_3⟩ : ∃ x : Nat → Option va_E, x = aw_up w3_2 q2 (.inr (7, [ii_v 0, ii_v 0, ii_v 0, ii_v 0, ii_v 0, ii_v 0, ii_v 0, ii_v 0, ii_v 0, ii_v 0, ii_v 0, ii_v 0, ii_v 0])) := ⟨_, rfl⟩
  rw [← e_w4_3]
  replace k_a : w4_3 a = some (.inr (1, [.ref q1, .null])) := by rw [e_w4_3, aw_up_o _ (by omega)]; exact k_a
  replace k_q1 : w4_3 q1 = some (.inr (0, [ii_v 0, .ref E.2.2, ii_v 0])) := by rw [e_w4_3, aw_up_o _ (by omega)]; exact k_q1
  have k_q2 : w4_3 q2 = some (.inr (7, [ii_v 0, ii_v 0, ii_v 0, ii_v 0, ii_v 0, ii_v 0, ii_v 0, ii_v 0, ii_v 0, ii_v 0, ii_v 0, ii_v 0, ii_v 0])) := by rw [e_w4_3]; exact aw_up_s _ _ _
  refine w_dup C dX0_init_19 rfl ?_
  refine w_callIN (b := q2) (As := []) C (i_req hl w4_3 q2  k_q2) co_X6_init in_X6 mn_X0_18 im_X6_init rfl ar_X6_init ⟨by decide, by decide, by omega, by omega⟩ rfl (Nat.le_of_ble_eq_true rfl) dX0_init_20 ?_
  intro v_w5_4 w5_4 z_w5_4
  obtain ⟨rfl, n_w5_4_q2, f_w5_4⟩ := z_w5_4
  replace k_a : w5_4 a = some (.inr (1, [.ref q1, .null])) := by rw [f_w5_4 _ (by omega)]; exact k_a
  replace k_q1 : w5_4 q1 = some (.inr (0, [ii_v 0, .ref E.2.2, ii_v 0])) := by rw [f_w5_4 _ (by omega)]; exact k_q1
  replace k_q2 := n_w5_4_q2
  refine w_vd ?_
  refine w_put (ci := 1) (i := 1) C iw_X0 rfl (by decide) (Or.inl rfl) tyX0 tyX0_ok nmX0 rfl rfl fl_X0_19 k_a (Nat.le_of_ble_eq_true rfl) rfl rfl dX0_init_23 ?_
  obtain ⟨w6_5, e_w6_5⟩ : ∃ x : Nat → Option va_E, x = aw_up w5_4 a (.inr (1, [.ref q1, .null].set 1 (.ref q2))) := ⟨_, rfl⟩
  rw [← e_w6_5]
  replace k_q1 : w6_5 q1 = some (.inr (0, [ii_v 0, .ref E.2.2, ii_v 0])) := by rw [e_w6_5, aw_up_o _ (by omega)]; exact k_q1
  replace k_q2 : w6_5 q2 = some (.inr (7, [ii_v 0, ii_v 0, ii_v 0, ii_v 0, ii_v 0, ii_v 0, ii_v 0, ii_v 0, ii_v 0, ii_v 0, ii_v (-1), ii_v 0, ii_v 0])) := by rw [e_w6_5, aw_up_o _ (by omega)]; exact k_q2
  replace k_a : w6_5 a = some (.inr (1, [.ref q1, .ref q2])) := by rw [e_w6_5]; exact aw_up_s _ _ _
  refine w_vret C ?_ (by omega) (by omega) dX0_init_26
  rw [hPost]
  exact ⟨rfl, q1, q2, t0, (by omega), k_q1, k_q2, k_a, fun b h_a h_q1 h_q2 => by rw [e_w6_5, aw_up_o _ h_a, f_w5_4 b h_q2, e_w4_3, aw_up_o _ h_q2, e_w3_2, aw_up_o _ h_a, f_w2_1 b h_q1, e_w1_0, aw_up_o _ h_q1]⟩
set_option maxRecDepth 20000 in
set_option maxHeartbeats 4000000 in
theorem i_jour {l : Launch} {E : ab_E} {base : Nat} (hl : l.stackTraces = false) (cw : Nat → Option va_E) (a : Nat)  (k_a : cw a = some (.inr (5, [.null, .null, .null, .null, ii_v 0]))) : aw_M l E base yX4_init cX4_init 1 none 2 4 240 [.ref a] cw (fun v c1 => v = none ∧ ∃ q1 q2 q3 q4 : Nat, aw_top cw q1 ∧ q1 < q2 ∧ q2 < q3 ∧ q3 < q4 ∧ c1 q1 = some (aw_ia E 60) ∧ c1 q2 = some (aw_ia E 60) ∧ c1 q3 = some (aw_ia E 60) ∧ c1 q4 = some (aw_ia E 60) ∧ c1 a = some (.inr (5, [.ref q1, .ref q2, .ref q3, .ref q4, ii_v 0])) ∧ ∀ b : Nat, b ≠ a → b ≠ q1 → b ≠ q2 → b ≠ q3 → b ≠ q4 → c1 b = cw b) := by
  obtain ⟨Post, hPost⟩ : ∃ P : Option Value → (Nat → Option va_E) → Prop, P = (fun v c1 => v = none ∧ ∃ q1 q2 q3 q4 : Nat, aw_top cw q1 ∧ q1 < q2 ∧ q2 < q3 ∧ q3 < q4 ∧ c1 q1 = some (aw_ia E 60) ∧ c1 q2 = some (aw_ia E 60) ∧ c1 q3 = some (aw_ia E 60) ∧ c1 q4 = some (aw_ia E 60) ∧ c1 a = some (.inr (5, [.ref q1, .ref q2, .ref q3, .ref q4, ii_v 0])) ∧ ∀ b : Nat, b ≠ a → b ≠ q1 → b ≠ q2 → b ≠ q3 → b ≠ q4 → c1 b = cw b) := ⟨_, rfl⟩
  rw [← hPost]
  refine aw_of RX4 [(0, .ref a)] hl (by decide) rfl (Nat.le_of_ble_eq_true rfl) rfl ?_
  intro p e s m args below meth c C hnm
  refine w_aload_n C dX4_init_0 rfl ?_
  refine w_oinit C ml_X4_3 dX4_init_1 (by decide) (Nat.le_of_ble_eq_true rfl) ?_
  refine w_aload_n C dX4_init_4 rfl ?_
  refine w_bipush C dX4_init_5 (by decide) ?_
  refine w_newi (N := 60) C rfl (by decide) (by omega) dX4_init_7 ?_
  intro q1 t_q1
  have l_a_q1 : a < q1 := t_q1 _ _ k_a
  have t0 : aw_top cw q1 := fun b e h => t_q1 b _ (by skip; exact h)
  obtain ⟨w1_0, e_w1_0⟩ : ∃ x : Nat → Option va_E, x = aw_up cw q1 (aw_ia E 60) := ⟨_, rfl⟩
  rw [← e_w1_0]
  replace k_a : w1_0 a = some (.inr (5, [.null, .null, .null, .null, ii_v 0])) := by rw [e_w1_0, aw_up_o _ (by omega)]; exact k_a
  have k_q1 : w1_0 q1 = some (aw_ia E 60) := by rw [e_w1_0]; exact aw_up_s _ _ _
  refine w_putF (ci := 5) (i := 0) C iw_X4 rfl (by decide) rfl tyX4 tyX4_ok nmX4 rfl hnm rfl fl_X4_9 k_a (Nat.le_of_ble_eq_true rfl) rfl rfl dX4_init_9 ?_
  obtain ⟨w2_1, e_w2_1⟩ : ∃ x : Nat → Option va_E, x = aw_up w1_0 a (.inr (5, [.null, .null, .null, .null, ii_v 0].set 0 (.ref q1))) := ⟨_, rfl⟩
  rw [← e_w2_1]
  replace k_q1 : w2_1 q1 = some (aw_ia E 60) := by rw [e_w2_1, aw_up_o _ (by omega)]; exact k_q1
  replace k_a : w2_1 a = some (.inr (5, [.ref q1, .null, .null, .null, ii_v 0])) := by rw [e_w2_1]; exact aw_up_s _ _ _
  refine w_aload_n C dX4_init_12 rfl ?_
  refine w_bipush C dX4_init_13 (by decide) ?_
  refine w_newi (N := 60) C rfl (by decide) (by omega) dX4_init_15 ?_
  intro q2 t_q2
  have l_q1_q2 : q1 < q2 := t_q2 _ _ k_q1
  obtain ⟨w3_2, e_w3_2⟩ : ∃ x : Nat → Option va_E, x = aw_up w2_1 q2 (aw_ia E 60) := ⟨_, rfl⟩
  rw [← e_w3_2]
  replace k_a : w3_2 a = some (.inr (5, [.ref q1, .null, .null, .null, ii_v 0])) := by rw [e_w3_2, aw_up_o _ (by omega)]; exact k_a
  replace k_q1 : w3_2 q1 = some (aw_ia E 60) := by rw [e_w3_2, aw_up_o _ (by omega)]; exact k_q1
  have k_q2 : w3_2 q2 = some (aw_ia E 60) := by rw [e_w3_2]; exact aw_up_s _ _ _
  refine w_putF (ci := 5) (i := 1) C iw_X4 rfl (by decide) rfl tyX4 tyX4_ok nmX4 rfl hnm rfl fl_X4_15 k_a (Nat.le_of_ble_eq_true rfl) rfl rfl dX4_init_17 ?_
  obtain ⟨w4_3, e_w4_3⟩ : ∃ x : Nat → Option va_E, x = aw_up w3_2 a (.inr (5, [.ref q1, .null, .null, .null, ii_v 0].set 1 (.ref q2))) := ⟨_, rfl⟩
  rw [← e_w4_3]
  replace k_q1 : w4_3 q1 = some (aw_ia E 60) := by rw [e_w4_3, aw_up_o _ (by omega)]; exact k_q1
  replace k_q2 : w4_3 q2 = some (aw_ia E 60) := by rw [e_w4_3, aw_up_o _ (by omega)]; exact k_q2
  replace k_a : w4_3 a = some (.inr (5, [.ref q1, .ref q2, .null, .null, ii_v 0])) := by rw [e_w4_3]; exact aw_up_s _ _ _
  refine w_aload_n C dX4_init_20 rfl ?_
  refine w_bipush C dX4_init_21 (by decide) ?_
  refine w_newi (N := 60) C rfl (by decide) (by omega) dX4_init_23 ?_
  intro q3 t_q3
  have l_q2_q3 : q2 < q3 := t_q3 _ _ k_q2
  obtain ⟨w5_4, e_w5_4⟩ : ∃ x : Nat → Option va_E, x = aw_up w4_3 q3 (aw_ia E 60) := ⟨_, rfl⟩
  rw [← e_w5_4]
  replace k_a : w5_4 a = some (.inr (5, [.ref q1, .ref q2, .null, .null, ii_v 0])) := by rw [e_w5_4, aw_up_o _ (by omega)]; exact k_a
  replace k_q1 : w5_4 q1 = some (aw_ia E 60) := by rw [e_w5_4, aw_up_o _ (by omega)]; exact k_q1
  replace k_q2 : w5_4 q2 = some (aw_ia E 60) := by rw [e_w5_4, aw_up_o _ (by omega)]; exact k_q2
  have k_q3 : w5_4 q3 = some (aw_ia E 60) := by rw [e_w5_4]; exact aw_up_s _ _ _
  refine w_putF (ci := 5) (i := 2) C iw_X4 rfl (by decide) rfl tyX4 tyX4_ok nmX4 rfl hnm rfl fl_X4_18 k_a (Nat.le_of_ble_eq_true rfl) rfl rfl dX4_init_25 ?_
  obtain ⟨w6_5, e_w6_5⟩ : ∃ x : Nat → Option va_E, x = aw_up w5_4 a (.inr (5, [.ref q1, .ref q2, .null, .null, ii_v 0].set 2 (.ref q3))) := ⟨_, rfl⟩
  rw [← e_w6_5]
  replace k_q1 : w6_5 q1 = some (aw_ia E 60) := by rw [e_w6_5, aw_up_o _ (by omega)]; exact k_q1
  replace k_q2 : w6_5 q2 = some (aw_ia E 60) := by rw [e_w6_5, aw_up_o _ (by omega)]; exact k_q2
  replace k_q3 : w6_5 q3 = some (aw_ia E 60) := by rw [e_w6_5, aw_up_o _ (by omega)]; exact k_q3
  replace k_a : w6_5 a = some (.inr (5, [.ref q1, .ref q2, .ref q3, .null, ii_v 0])) := by rw [e_w6_5]; exact aw_up_s _ _ _
  refine w_aload_n C dX4_init_28 rfl ?_
  refine w_bipush C dX4_init_29 (by decide) ?_
  refine w_newi (N := 60) C rfl (by decide) (by omega) dX4_init_31 ?_
  intro q4 t_q4
  have l_q3_q4 : q3 < q4 := t_q4 _ _ k_q3
  obtain ⟨w7_6, e_w7_6⟩ : ∃ x : Nat → Option va_E, x = aw_up w6_5 q4 (aw_ia E 60) := ⟨_, rfl⟩
  rw [← e_w7_6]
  replace k_a : w7_6 a = some (.inr (5, [.ref q1, .ref q2, .ref q3, .null, ii_v 0])) := by rw [e_w7_6, aw_up_o _ (by omega)]; exact k_a
  replace k_q1 : w7_6 q1 = some (aw_ia E 60) := by rw [e_w7_6, aw_up_o _ (by omega)]; exact k_q1
  replace k_q2 : w7_6 q2 = some (aw_ia E 60) := by rw [e_w7_6, aw_up_o _ (by omega)]; exact k_q2
  replace k_q3 : w7_6 q3 = some (aw_ia E 60) := by rw [e_w7_6, aw_up_o _ (by omega)]; exact k_q3
  have k_q4 : w7_6 q4 = some (aw_ia E 60) := by rw [e_w7_6]; exact aw_up_s _ _ _
  refine w_putF (ci := 5) (i := 3) C iw_X4 rfl (by decide) rfl tyX4 tyX4_ok nmX4 rfl hnm rfl fl_X4_21 k_a (Nat.le_of_ble_eq_true rfl) rfl rfl dX4_init_33 ?_
  obtain ⟨w8_7, e_w8_7⟩ : ∃ x : Nat → Option va_E, x = aw_up w7_6 a (.inr (5, [.ref q1, .ref q2, .ref q3, .null, ii_v 0].set 3 (.ref q4))) := ⟨_, rfl⟩
  rw [← e_w8_7]
  replace k_q1 : w8_7 q1 = some (aw_ia E 60) := by rw [e_w8_7, aw_up_o _ (by omega)]; exact k_q1
  replace k_q2 : w8_7 q2 = some (aw_ia E 60) := by rw [e_w8_7, aw_up_o _ (by omega)]; exact k_q2
  replace k_q3 : w8_7 q3 = some (aw_ia E 60) := by rw [e_w8_7, aw_up_o _ (by omega)]; exact k_q3
  replace k_q4 : w8_7 q4 = some (aw_ia E 60) := by rw [e_w8_7, aw_up_o _ (by omega)]; exact k_q4
  replace k_a : w8_7 a = some (.inr (5, [.ref q1, .ref q2, .ref q3, .ref q4, ii_v 0])) := by rw [e_w8_7]; exact aw_up_s _ _ _
  refine w_vret C ?_ (by omega) (by omega) dX4_init_36
  rw [hPost]
  exact ⟨rfl, q1, q2, q3, q4, t0, (by omega), (by omega), (by omega), k_q1, k_q2, k_q3, k_q4, k_a, fun b h_a h_q1 h_q2 h_q3 h_q4 => by rw [e_w8_7, aw_up_o _ h_a, e_w7_6, aw_up_o _ h_q4, e_w6_5, aw_up_o _ h_a, e_w5_4, aw_up_o _ h_q3, e_w4_3, aw_up_o _ h_a, e_w3_2, aw_up_o _ h_q2, e_w2_1, aw_up_o _ h_a, e_w1_0, aw_up_o _ h_q1]⟩
set_option maxRecDepth 20000 in
set_option maxHeartbeats 4000000 in
theorem i_insp {l : Launch} {E : ab_E} {base : Nat} (hl : l.stackTraces = false) (cw : Nat → Option va_E) (a : Nat) (o1 : Nat) (k_a : cw a = some (.inr (4, [.null, .null]))) : aw_M l E base yX3_init cX3_init 2 none 2 1 8 [.ref a, .ref o1] cw (fun v c1 => v = none ∧ ∃ q1 : Nat, aw_top cw q1 ∧ c1 q1 = some (aw_ia E 8) ∧ c1 a = some (.inr (4, [.ref o1, .ref q1])) ∧ ∀ b : Nat, b ≠ a → b ≠ q1 → c1 b = cw b) := by
  obtain ⟨Post, hPost⟩ : ∃ P : Option Value → (Nat → Option va_E) → Prop, P = (fun v c1 => v = none ∧ ∃ q1 : Nat, aw_top cw q1 ∧ c1 q1 = some (aw_ia E 8) ∧ c1 a = some (.inr (4, [.ref o1, .ref q1])) ∧ ∀ b : Nat, b ≠ a → b ≠ q1 → c1 b = cw b) := ⟨_, rfl⟩
  rw [← hPost]
  refine aw_of RX3 [(0, .ref a), (1, .ref o1)] hl (by decide) rfl (Nat.le_of_ble_eq_true rfl) rfl ?_
  intro p e s m args below meth c C hnm
  refine w_aload_n C dX3_init_0 rfl ?_
  refine w_oinit C ml_X3_3 dX3_init_1 (by decide) (Nat.le_of_ble_eq_true rfl) ?_
  refine w_aload_n C dX3_init_4 rfl ?_
  refine w_bipush C dX3_init_5 (by decide) ?_
  refine w_newi (N := 8) C rfl (by decide) (by omega) dX3_init_7 ?_
  intro q1 t_q1
  have l_a_q1 : a < q1 := t_q1 _ _ k_a
  have t0 : aw_top cw q1 := fun b e h => t_q1 b _ (by skip; exact h)
  obtain ⟨w1_0, e_w1_0⟩ : ∃ x : Nat → Option va_E, x = aw_up cw q1 (aw_ia E 8) := ⟨_, rfl⟩
  rw [← e_w1_0]
  replace k_a : w1_0 a = some (.inr (4, [.null, .null])) := by rw [e_w1_0, aw_up_o _ (by omega)]; exact k_a
  have k_q1 : w1_0 q1 = some (aw_ia E 8) := by rw [e_w1_0]; exact aw_up_s _ _ _
  refine w_putF (ci := 4) (i := 1) C iw_X3 rfl (by decide) rfl tyX3 tyX3_ok nmX3 rfl hnm rfl fl_X3_9 k_a (Nat.le_of_ble_eq_true rfl) rfl rfl dX3_init_9 ?_
  obtain ⟨w2_1, e_w2_1⟩ : ∃ x : Nat → Option va_E, x = aw_up w1_0 a (.inr (4, [.null, .null].set 1 (.ref q1))) := ⟨_, rfl⟩
  rw [← e_w2_1]
  replace k_q1 : w2_1 q1 = some (aw_ia E 8) := by rw [e_w2_1, aw_up_o _ (by omega)]; exact k_q1
  replace k_a : w2_1 a = some (.inr (4, [.null, .ref q1])) := by rw [e_w2_1]; exact aw_up_s _ _ _
  refine w_aload_n C dX3_init_12 rfl ?_
  refine w_aload_n C dX3_init_13 rfl ?_
  refine w_putF (ci := 4) (i := 0) C iw_X3 rfl (by decide) rfl tyX3 tyX3_ok nmX3 rfl hnm rfl fl_X3_15 k_a (Nat.le_of_ble_eq_true rfl) rfl rfl dX3_init_14 ?_
  obtain ⟨w3_2, e_w3_2⟩ : ∃ x : Nat → Option va_E, x = aw_up w2_1 a (.inr (4, [.null, .ref q1].set 0 (.ref o1))) := ⟨_, rfl⟩
  rw [← e_w3_2]
  replace k_q1 : w3_2 q1 = some (aw_ia E 8) := by rw [e_w3_2, aw_up_o _ (by omega)]; exact k_q1
  replace k_a : w3_2 a = some (.inr (4, [.ref o1, .ref q1])) := by rw [e_w3_2]; exact aw_up_s _ _ _
  refine w_vret C ?_ (by omega) (by omega) dX3_init_17
  rw [hPost]
  exact ⟨rfl, q1, t0, k_q1, k_a, fun b h_a h_q1 => by rw [e_w3_2, aw_up_o _ h_a, e_w2_1, aw_up_o _ h_a, e_w1_0, aw_up_o _ h_q1]⟩
set_option maxRecDepth 20000 in
set_option maxHeartbeats 4000000 in
theorem i_walk {l : Launch} {E : ab_E} {base : Nat} (hl : l.stackTraces = false) (cw : Nat → Option va_E) (a : Nat) (o1 : Nat) (k_a : cw a = some (.inr (9, [.null, .null, ii_v 0, ii_v 0, ii_v 0, ii_v 0, ii_v 0]))) : aw_M l E base yX8_init cX8_init 2 none 2 1 8 [.ref a, .ref o1] cw (fun v c1 => v = none ∧ ∃ q1 : Nat, aw_top cw q1 ∧ c1 q1 = some (aw_ia E 8) ∧ c1 a = some (.inr (9, [.ref o1, .ref q1, ii_v 0, ii_v 0, ii_v 0, ii_v 0, ii_v 0])) ∧ ∀ b : Nat, b ≠ a → b ≠ q1 → c1 b = cw b) := by
  obtain ⟨Post, hPost⟩ : ∃ P : Option Value → (Nat → Option va_E) → Prop, P = (fun v c1 => v = none ∧ ∃ q1 : Nat, aw_top cw q1 ∧ c1 q1 = some (aw_ia E 8) ∧ c1 a = some (.inr (9, [.ref o1, .ref q1, ii_v 0, ii_v 0, ii_v 0, ii_v 0, ii_v 0])) ∧ ∀ b : Nat, b ≠ a → b ≠ q1 → c1 b = cw b) := ⟨_, rfl⟩
  rw [← hPost]
  refine aw_of RX8 [(0, .ref a), (1, .ref o1)] hl (by decide) rfl (Nat.le_of_ble_eq_true rfl) rfl ?_
  intro p e s m args below meth c C hnm
  refine w_aload_n C dX8_init_0 rfl ?_
  refine w_oinit C ml_X8_3 dX8_init_1 (by decide) (Nat.le_of_ble_eq_true rfl) ?_
  refine w_aload_n C dX8_init_4 rfl ?_
  refine w_bipush C dX8_init_5 (by decide) ?_
  refine w_newi (N := 8) C rfl (by decide) (by omega) dX8_init_7 ?_
  intro q1 t_q1
  have l_a_q1 : a < q1 := t_q1 _ _ k_a
  have t0 : aw_top cw q1 := fun b e h => t_q1 b _ (by skip; exact h)
  obtain ⟨w1_0, e_w1_0⟩ : ∃ x : Nat → Option va_E, x = aw_up cw q1 (aw_ia E 8) := ⟨_, rfl⟩
  rw [← e_w1_0]
  replace k_a : w1_0 a = some (.inr (9, [.null, .null, ii_v 0, ii_v 0, ii_v 0, ii_v 0, ii_v 0])) := by rw [e_w1_0, aw_up_o _ (by omega)]; exact k_a
  have k_q1 : w1_0 q1 = some (aw_ia E 8) := by rw [e_w1_0]; exact aw_up_s _ _ _
  refine w_putF (ci := 9) (i := 1) C iw_X8 rfl (by decide) rfl tyX8 tyX8_ok nmX8 rfl hnm rfl fl_X8_9 k_a (Nat.le_of_ble_eq_true rfl) rfl rfl dX8_init_9 ?_
  obtain ⟨w2_1, e_w2_1⟩ : ∃ x : Nat → Option va_E, x = aw_up w1_0 a (.inr (9, [.null, .null, ii_v 0, ii_v 0, ii_v 0, ii_v 0, ii_v 0].set 1 (.ref q1))) := ⟨_, rfl⟩
  rw [← e_w2_1]
  replace k_q1 : w2_1 q1 = some (aw_ia E 8) := by rw [e_w2_1, aw_up_o _ (by omega)]; exact k_q1
  replace k_a : w2_1 a = some (.inr (9, [.null, .ref q1, ii_v 0, ii_v 0, ii_v 0, ii_v 0, ii_v 0])) := by rw [e_w2_1]; exact aw_up_s _ _ _
  refine w_aload_n C dX8_init_12 rfl ?_
  refine w_aload_n C dX8_init_13 rfl ?_
  refine w_putF (ci := 9) (i := 0) C iw_X8 rfl (by decide) rfl tyX8 tyX8_ok nmX8 rfl hnm rfl fl_X8_15 k_a (Nat.le_of_ble_eq_true rfl) rfl rfl dX8_init_14 ?_
  obtain ⟨w3_2, e_w3_2⟩ : ∃ x : Nat → Option va_E, x = aw_up w2_1 a (.inr (9, [.null, .ref q1, ii_v 0, ii_v 0, ii_v 0, ii_v 0, ii_v 0].set 0 (.ref o1))) := ⟨_, rfl⟩
  rw [← e_w3_2]
  replace k_q1 : w3_2 q1 = some (aw_ia E 8) := by rw [e_w3_2, aw_up_o _ (by omega)]; exact k_q1
  replace k_a : w3_2 a = some (.inr (9, [.ref o1, .ref q1, ii_v 0, ii_v 0, ii_v 0, ii_v 0, ii_v 0])) := by rw [e_w3_2]; exact aw_up_s _ _ _
  refine w_vret C ?_ (by omega) (by omega) dX8_init_17
  rw [hPost]
  exact ⟨rfl, q1, t0, k_q1, k_a, fun b h_a h_q1 => by rw [e_w3_2, aw_up_o _ h_a, e_w2_1, aw_up_o _ h_a, e_w1_0, aw_up_o _ h_q1]⟩
set_option maxRecDepth 20000 in
set_option maxHeartbeats 4000000 in
theorem i_choice {l : Launch} {E : ab_E} {base : Nat} (hl : l.stackTraces = false) (cw : Nat → Option va_E) (a : Nat) (o1 o2 : Nat) (k_a : cw a = some (.inr (3, [.null, .null, .null, ii_v 0, ii_v 0, ii_v 0, ii_v 0, ii_v 0]))) : aw_M l E base yX2_init cX2_init 3 none 3 2 10 [.ref a, .ref o1, .ref o2] cw (fun v c1 => v = none ∧ ∃ q1 q2 : Nat, aw_top cw q1 ∧ q1 < q2 ∧ c1 q1 = some (.inr (8, [.ref q2, ii_v 0])) ∧ c1 q2 = some (aw_ia E 8) ∧ c1 a = some (.inr (3, [.ref o1, .ref o2, .ref q1, ii_v 0, ii_v 0, ii_v 0, ii_v 0, ii_v 0])) ∧ ∀ b : Nat, b ≠ a → b ≠ q1 → b ≠ q2 → c1 b = cw b) := by
  obtain ⟨Post, hPost⟩ : ∃ P : Option Value → (Nat → Option va_E) → Prop, P = (fun v c1 => v = none ∧ ∃ q1 q2 : Nat, aw_top cw q1 ∧ q1 < q2 ∧ c1 q1 = some (.inr (8, [.ref q2, ii_v 0])) ∧ c1 q2 = some (aw_ia E 8) ∧ c1 a = some (.inr (3, [.ref o1, .ref o2, .ref q1, ii_v 0, ii_v 0, ii_v 0, ii_v 0, ii_v 0])) ∧ ∀ b : Nat, b ≠ a → b ≠ q1 → b ≠ q2 → c1 b = cw b) := ⟨_, rfl⟩
  rw [← hPost]
  refine aw_of RX2 [(0, .ref a), (1, .ref o1), (2, .ref o2)] hl (by decide) rfl (Nat.le_of_ble_eq_true rfl) rfl ?_
  intro p e s m args below meth c C hnm
  refine w_aload_n C dX2_init_0 rfl ?_
  refine w_oinit C ml_X2_3 dX2_init_1 (by decide) (Nat.le_of_ble_eq_true rfl) ?_
  refine w_aload_n C dX2_init_4 rfl ?_
  refine w_new (ci := 8) (fs := [.null, ii_v 0]) C iw_X7 rfl tyX7 tyX7_ok cl_X2_9 it_X7 in_X7 (fun j hj => by rcases (show j = 0 ∨ j = 1 by omega) with rfl | rfl <;> rfl) (by omega) dX2_init_5 ?_
  intro q1 t_q1
  have l_a_q1 : a < q1 := t_q1 _ _ k_a
  have t0 : aw_top cw q1 := fun b e h => t_q1 b _ (by skip; exact h)
  obtain ⟨w1_0, e_w1_0⟩ : ∃ x : Nat → Option va_E, x = aw_up cw q1 (.inr (8, [.null, ii_v 0])) := ⟨_, rfl⟩
  rw [← e_w1_0]
  replace k_a : w1_0 a = some (.inr (3, [.null, .null, .null, ii_v 0, ii_v 0, ii_v 0, ii_v 0, ii_v 0])) := by rw [e_w1_0, aw_up_o _ (by omega)]; exact k_a
  have k_q1 : w1_0 q1 = some (.inr (8, [.null, ii_v 0])) := by rw [e_w1_0]; exact aw_up_s _ _ _
  refine w_dup C dX2_init_8 rfl ?_
  refine w_callIN (b := q1) (As := []) C (i_tour hl w1_0 q1  k_q1) co_X7_init in_X7 mn_X2_11 im_X7_init rfl ar_X7_init ⟨by decide, by decide, by omega, by omega⟩ rfl (Nat.le_of_ble_eq_true rfl) dX2_init_9 ?_
  intro v_w2_1 w2_1 z_w2_1
  obtain ⟨rfl, q2, t_q2, k_q2, n_w2_1_q1, f_w2_1⟩ := z_w2_1
  have l_q1_q2 : q1 < q2 := t_q2 _ _ k_q1
  replace k_a : w2_1 a = some (.inr (3, [.null, .null, .null, ii_v 0, ii_v 0, ii_v 0, ii_v 0, ii_v 0])) := by rw [f_w2_1 _ (by omega) (by omega)]; exact k_a
  replace k_q1 := n_w2_1_q1
  refine w_vd ?_
  refine w_putF (ci := 3) (i := 2) C iw_X2 rfl (by decide) rfl tyX2 tyX2_ok nmX2 rfl hnm rfl fl_X2_12 k_a (Nat.le_of_ble_eq_true rfl) rfl rfl dX2_init_12 ?_
  obtain ⟨w3_2, e_w3_2⟩ : ∃ x : Nat → Option va_E, x = aw_up w2_1 a (.inr (3, [.null, .null, .null, ii_v 0, ii_v 0, ii_v 0, ii_v 0, ii_v 0].set 2 (.ref q1))) := ⟨_, rfl⟩
  rw [← e_w3_2]
  replace k_q1 : w3_2 q1 = some (.inr (8, [.ref q2, ii_v 0])) := by rw [e_w3_2, aw_up_o _ (by omega)]; exact k_q1
  replace k_q2 : w3_2 q2 = some (aw_ia E 8) := by rw [e_w3_2, aw_up_o _ (by omega)]; exact k_q2
  replace k_a : w3_2 a = some (.inr (3, [.null, .null, .ref q1, ii_v 0, ii_v 0, ii_v 0, ii_v 0, ii_v 0])) := by rw [e_w3_2]; exact aw_up_s _ _ _
  refine w_aload_n C dX2_init_15 rfl ?_
  refine w_aload_n C dX2_init_16 rfl ?_
  refine w_putF (ci := 3) (i := 0) C iw_X2 rfl (by decide) rfl tyX2 tyX2_ok nmX2 rfl hnm rfl fl_X2_18 k_a (Nat.le_of_ble_eq_true rfl) rfl rfl dX2_init_17 ?_
  obtain ⟨w4_3, e_w4_3⟩ : ∃ x : Nat → Option va_E, x = aw_up w3_2 a (.inr (3, [.null, .null, .ref q1, ii_v 0, ii_v 0, ii_v 0, ii_v 0, ii_v 0].set 0 (.ref o1))) := ⟨_, rfl⟩
  rw [← e_w4_3]
  replace k_q1 : w4_3 q1 = some (.inr (8, [.ref q2, ii_v 0])) := by rw [e_w4_3, aw_up_o _ (by omega)]; exact k_q1
  replace k_q2 : w4_3 q2 = some (aw_ia E 8) := by rw [e_w4_3, aw_up_o _ (by omega)]; exact k_q2
  replace k_a : w4_3 a = some (.inr (3, [.ref o1, .null, .ref q1, ii_v 0, ii_v 0, ii_v 0, ii_v 0, ii_v 0])) := by rw [e_w4_3]; exact aw_up_s _ _ _
  refine w_aload_n C dX2_init_20 rfl ?_
  refine w_aload_n C dX2_init_21 rfl ?_
  refine w_putF (ci := 3) (i := 1) C iw_X2 rfl (by decide) rfl tyX2 tyX2_ok nmX2 rfl hnm rfl fl_X2_22 k_a (Nat.le_of_ble_eq_true rfl) rfl rfl dX2_init_22 ?_
  obtain ⟨w5_4, e_w5_4⟩ : ∃ x : Nat → Option va_E, x = aw_up w4_3 a (.inr (3, [.ref o1, .null, .ref q1, ii_v 0, ii_v 0, ii_v 0, ii_v 0, ii_v 0].set 1 (.ref o2))) := ⟨_, rfl⟩
  rw [← e_w5_4]
  replace k_q1 : w5_4 q1 = some (.inr (8, [.ref q2, ii_v 0])) := by rw [e_w5_4, aw_up_o _ (by omega)]; exact k_q1
  replace k_q2 : w5_4 q2 = some (aw_ia E 8) := by rw [e_w5_4, aw_up_o _ (by omega)]; exact k_q2
  replace k_a : w5_4 a = some (.inr (3, [.ref o1, .ref o2, .ref q1, ii_v 0, ii_v 0, ii_v 0, ii_v 0, ii_v 0])) := by rw [e_w5_4]; exact aw_up_s _ _ _
  refine w_vret C ?_ (by omega) (by omega) dX2_init_25
  rw [hPost]
  exact ⟨rfl, q1, q2, t0, (by omega), k_q1, k_q2, k_a, fun b h_a h_q1 h_q2 => by rw [e_w5_4, aw_up_o _ h_a, e_w4_3, aw_up_o _ h_a, e_w3_2, aw_up_o _ h_a, f_w2_1 b h_q1 h_q2, e_w1_0, aw_up_o _ h_q1]⟩
set_option maxRecDepth 20000 in
set_option maxHeartbeats 4000000 in
theorem i_orders {l : Launch} {E : ab_E} {base : Nat} (hl : l.stackTraces = false) (cw : Nat → Option va_E) (a : Nat) (o1 o2 : Nat) (k_a : cw a = some (.inr (6, [.null, .null, .null, .null, ii_v 0]))) : aw_M l E base yX5_init cX5_init 3 none 3 4 20 [.ref a, .ref o1, .ref o2] cw (fun v c1 => v = none ∧ ∃ q1 q2 q3 q4 : Nat, aw_top cw q1 ∧ q1 < q2 ∧ q2 < q3 ∧ q3 < q4 ∧ c1 q1 = some (.inr (8, [.ref q2, ii_v 0])) ∧ c1 q2 = some (aw_ia E 8) ∧ c1 q3 = some (.inr (8, [.ref q4, ii_v 0])) ∧ c1 q4 = some (aw_ia E 8) ∧ c1 a = some (.inr (6, [.ref o1, .ref o2, .ref q1, .ref q3, ii_v 0])) ∧ ∀ b : Nat, b ≠ a → b ≠ q1 → b ≠ q2 → b ≠ q3 → b ≠ q4 → c1 b = cw b) := by
  obtain ⟨Post, hPost⟩ : ∃ P : Option Value → (Nat → Option va_E) → Prop, P = (fun v c1 => v = none ∧ ∃ q1 q2 q3 q4 : Nat, aw_top cw q1 ∧ q1 < q2 ∧ q2 < q3 ∧ q3 < q4 ∧ c1 q1 = some (.inr (8, [.ref q2, ii_v 0])) ∧ c1 q2 = some (aw_ia E 8) ∧ c1 q3 = some (.inr (8, [.ref q4, ii_v 0])) ∧ c1 q4 = some (aw_ia E 8) ∧ c1 a = some (.inr (6, [.ref o1, .ref o2, .ref q1, .ref q3, ii_v 0])) ∧ ∀ b : Nat, b ≠ a → b ≠ q1 → b ≠ q2 → b ≠ q3 → b ≠ q4 → c1 b = cw b) := ⟨_, rfl⟩
  rw [← hPost]
  refine aw_of RX5 [(0, .ref a), (1, .ref o1), (2, .ref o2)] hl (by decide) rfl (Nat.le_of_ble_eq_true rfl) rfl ?_
  intro p e s m args below meth c C hnm
  refine w_aload_n C dX5_init_0 rfl ?_
  refine w_oinit C ml_X5_3 dX5_init_1 (by decide) (Nat.le_of_ble_eq_true rfl) ?_
  refine w_aload_n C dX5_init_4 rfl ?_
  refine w_new (ci := 8) (fs := [.null, ii_v 0]) C iw_X7 rfl tyX7 tyX7_ok cl_X5_9 it_X7 in_X7 (fun j hj => by rcases (show j = 0 ∨ j = 1 by omega) with rfl | rfl <;> rfl) (by omega) dX5_init_5 ?_
  intro q1 t_q1
  have l_a_q1 : a < q1 := t_q1 _ _ k_a
  have t0 : aw_top cw q1 := fun b e h => t_q1 b _ (by skip; exact h)
  obtain ⟨w1_0, e_w1_0⟩ : ∃ x : Nat → Option va_E, x = aw_up cw q1 (.inr (8, [.null, ii_v 0])) := ⟨_, rfl⟩
  rw [← e_w1_0]
  replace k_a : w1_0 a = some (.inr (6, [.null, .null, .null, .null, ii_v 0])) := by rw [e_w1_0, aw_up_o _ (by omega)]; exact k_a
  have k_q1 : w1_0 q1 = some (.inr (8, [.null, ii_v 0])) := by rw [e_w1_0]; exact aw_up_s _ _ _
  refine w_dup C dX5_init_8 rfl ?_
  refine w_callIN (b := q1) (As := []) C (i_tour hl w1_0 q1  k_q1) co_X7_init in_X7 mn_X5_11 im_X7_init rfl ar_X7_init ⟨by decide, by decide, by omega, by omega⟩ rfl (Nat.le_of_ble_eq_true rfl) dX5_init_9 ?_
  intro v_w2_1 w2_1 z_w2_1
  obtain ⟨rfl, q2, t_q2, k_q2, n_w2_1_q1, f_w2_1⟩ := z_w2_1
  have l_q1_q2 : q1 < q2 := t_q2 _ _ k_q1
  replace k_a : w2_1 a = some (.inr (6, [.null, .null, .null, .null, ii_v 0])) := by rw [f_w2_1 _ (by omega) (by omega)]; exact k_a
  replace k_q1 := n_w2_1_q1
  refine w_vd ?_
  refine w_putF (ci := 6) (i := 2) C iw_X5 rfl (by decide) rfl tyX5 tyX5_ok nmX5 rfl hnm rfl fl_X5_12 k_a (Nat.le_of_ble_eq_true rfl) rfl rfl dX5_init_12 ?_
  obtain ⟨w3_2, e_w3_2⟩ : ∃ x : Nat → Option va_E, x = aw_up w2_1 a (.inr (6, [.null, .null, .null, .null, ii_v 0].set 2 (.ref q1))) := ⟨_, rfl⟩
  rw [← e_w3_2]
  replace k_q1 : w3_2 q1 = some (.inr (8, [.ref q2, ii_v 0])) := by rw [e_w3_2, aw_up_o _ (by omega)]; exact k_q1
  replace k_q2 : w3_2 q2 = some (aw_ia E 8) := by rw [e_w3_2, aw_up_o _ (by omega)]; exact k_q2
  replace k_a : w3_2 a = some (.inr (6, [.null, .null, .ref q1, .null, ii_v 0])) := by rw [e_w3_2]; exact aw_up_s _ _ _
  refine w_aload_n C dX5_init_15 rfl ?_
  refine w_new (ci := 8) (fs := [.null, ii_v 0]) C iw_X7 rfl tyX7 tyX7_ok cl_X5_9 it_X7 in_X7 (fun j hj => by rcases (show j = 0 ∨ j = 1 by omega) with rfl | rfl <;> rfl) (by omega) dX5_init_16 ?_
  intro q3 t_q3
  have l_q2_q3 : q2 < q3 := t_q3 _ _ k_q2
  obtain ⟨w4_3, e_w4_3⟩ : ∃ x : Nat → Option va_E, x = aw_up w3_2 q3 (.inr (8, [.null, ii_v 0])) := ⟨_, rfl⟩
  rw [← e_w4_3]
  replace k_a : w4_3 a = some (.inr (6, [.null, .null, .ref q1, .null, ii_v 0])) := by rw [e_w4_3, aw_up_o _ (by omega)]; exact k_a
  replace k_q1 : w4_3 q1 = some (.inr (8, [.ref q2, ii_v 0])) := by rw [e_w4_3, aw_up_o _ (by omega)]; exact k_q1
  replace k_q2 : w4_3 q2 = some (aw_ia E 8) := by rw [e_w4_3, aw_up_o _ (by omega)]; exact k_q2
  have k_q3 : w4_3 q3 = some (.inr (8, [.null, ii_v 0])) := by rw [e_w4_3]; exact aw_up_s _ _ _
  refine w_dup C dX5_init_19 rfl ?_
  refine w_callIN (b := q3) (As := []) C (i_tour hl w4_3 q3  k_q3) co_X7_init in_X7 mn_X5_11 im_X7_init rfl ar_X7_init ⟨by decide, by decide, by omega, by omega⟩ rfl (Nat.le_of_ble_eq_true rfl) dX5_init_20 ?_
  intro v_w5_4 w5_4 z_w5_4
  obtain ⟨rfl, q4, t_q4, k_q4, n_w5_4_q3, f_w5_4⟩ := z_w5_4
  have l_q3_q4 : q3 < q4 := t_q4 _ _ k_q3
  replace k_a : w5_4 a = some (.inr (6, [.null, .null, .ref q1, .null, ii_v 0])) := by rw [f_w5_4 _ (by omega) (by omega)]; exact k_a
  replace k_q1 : w5_4 q1 = some (.inr (8, [.ref q2, ii_v 0])) := by rw [f_w5_4 _ (by omega) (by omega)]; exact k_q1
  replace k_q2 : w5_4 q2 = some (aw_ia E 8) := by rw [f_w5_4 _ (by omega) (by omega)]; exact k_q2
  replace k_q3 := n_w5_4_q3
  refine w_vd ?_
  refine w_putF (ci := 6) (i := 3) C iw_X5 rfl (by decide) rfl tyX5 tyX5_ok nmX5 rfl hnm rfl fl_X5_18 k_a (Nat.le_of_ble_eq_true rfl) rfl rfl dX5_init_23 ?_
  obtain ⟨w6_5, e_w6_5⟩ : ∃ x : Nat → Option va_E, x = aw_up w5_4 a (.inr (6, [.null, .null, .ref q1, .null, ii_v 0].set 3 (.ref q3))) := ⟨_, rfl⟩
  rw [← e_w6_5]
  replace k_q1 : w6_5 q1 = some (.inr (8, [.ref q2, ii_v 0])) := by rw [e_w6_5, aw_up_o _ (by omega)]; exact k_q1
  replace k_q2 : w6_5 q2 = some (aw_ia E 8) := by rw [e_w6_5, aw_up_o _ (by omega)]; exact k_q2
  replace k_q3 : w6_5 q3 = some (.inr (8, [.ref q4, ii_v 0])) := by rw [e_w6_5, aw_up_o _ (by omega)]; exact k_q3
  replace k_q4 : w6_5 q4 = some (aw_ia E 8) := by rw [e_w6_5, aw_up_o _ (by omega)]; exact k_q4
  replace k_a : w6_5 a = some (.inr (6, [.null, .null, .ref q1, .ref q3, ii_v 0])) := by rw [e_w6_5]; exact aw_up_s _ _ _
  refine w_aload_n C dX5_init_26 rfl ?_
  refine w_aload_n C dX5_init_27 rfl ?_
  refine w_putF (ci := 6) (i := 0) C iw_X5 rfl (by decide) rfl tyX5 tyX5_ok nmX5 rfl hnm rfl fl_X5_21 k_a (Nat.le_of_ble_eq_true rfl) rfl rfl dX5_init_28 ?_
  obtain ⟨w7_6, e_w7_6⟩ : ∃ x : Nat → Option va_E, x = aw_up w6_5 a (.inr (6, [.null, .null, .ref q1, .ref q3, ii_v 0].set 0 (.ref o1))) := ⟨_, rfl⟩
  rw [← e_w7_6]
  replace k_q1 : w7_6 q1 = some (.inr (8, [.ref q2, ii_v 0])) := by rw [e_w7_6, aw_up_o _ (by omega)]; exact k_q1
  replace k_q2 : w7_6 q2 = some (aw_ia E 8) := by rw [e_w7_6, aw_up_o _ (by omega)]; exact k_q2
  replace k_q3 : w7_6 q3 = some (.inr (8, [.ref q4, ii_v 0])) := by rw [e_w7_6, aw_up_o _ (by omega)]; exact k_q3
  replace k_q4 : w7_6 q4 = some (aw_ia E 8) := by rw [e_w7_6, aw_up_o _ (by omega)]; exact k_q4
  replace k_a : w7_6 a = some (.inr (6, [.ref o1, .null, .ref q1, .ref q3, ii_v 0])) := by rw [e_w7_6]; exact aw_up_s _ _ _
  refine w_aload_n C dX5_init_31 rfl ?_
  refine w_aload_n C dX5_init_32 rfl ?_
  refine w_putF (ci := 6) (i := 1) C iw_X5 rfl (by decide) rfl tyX5 tyX5_ok nmX5 rfl hnm rfl fl_X5_25 k_a (Nat.le_of_ble_eq_true rfl) rfl rfl dX5_init_33 ?_
  obtain ⟨w8_7, e_w8_7⟩ : ∃ x : Nat → Option va_E, x = aw_up w7_6 a (.inr (6, [.ref o1, .null, .ref q1, .ref q3, ii_v 0].set 1 (.ref o2))) := ⟨_, rfl⟩
  rw [← e_w8_7]
  replace k_q1 : w8_7 q1 = some (.inr (8, [.ref q2, ii_v 0])) := by rw [e_w8_7, aw_up_o _ (by omega)]; exact k_q1
  replace k_q2 : w8_7 q2 = some (aw_ia E 8) := by rw [e_w8_7, aw_up_o _ (by omega)]; exact k_q2
  replace k_q3 : w8_7 q3 = some (.inr (8, [.ref q4, ii_v 0])) := by rw [e_w8_7, aw_up_o _ (by omega)]; exact k_q3
  replace k_q4 : w8_7 q4 = some (aw_ia E 8) := by rw [e_w8_7, aw_up_o _ (by omega)]; exact k_q4
  replace k_a : w8_7 a = some (.inr (6, [.ref o1, .ref o2, .ref q1, .ref q3, ii_v 0])) := by rw [e_w8_7]; exact aw_up_s _ _ _
  refine w_vret C ?_ (by omega) (by omega) dX5_init_36
  rw [hPost]
  exact ⟨rfl, q1, q2, q3, q4, t0, (by omega), (by omega), (by omega), k_q1, k_q2, k_q3, k_q4, k_a, fun b h_a h_q1 h_q2 h_q3 h_q4 => by rw [e_w8_7, aw_up_o _ h_a, e_w7_6, aw_up_o _ h_a, e_w6_5, aw_up_o _ h_a, f_w5_4 b h_q3 h_q4, e_w4_3, aw_up_o _ h_q3, e_w3_2, aw_up_o _ h_a, f_w2_1 b h_q1 h_q2, e_w1_0, aw_up_o _ h_q1]⟩
set_option maxRecDepth 20000 in
set_option maxHeartbeats 4000000 in
theorem i_bus {l : Launch} {E : ab_E} {base : Nat} (hl : l.stackTraces = false) (cw : Nat → Option va_E) (a : Nat) (n0 n1 n2 n3 n4 : Int) (k_a : cw a = some (.inr (2, [ii_v 0, ii_v 0, ii_v 0, ii_v 0, ii_v 0, .null, ii_v 0, ii_v 0, ii_v 0, ii_v 0, ii_v 0, ii_v 0, ii_v 0]))) : aw_M l E base yX1_init cX1_init 6 none 3 2 10 [.ref a, ii_v n0, ii_v n1, ii_v n2, ii_v n3, ii_v n4] cw (fun v c1 => v = none ∧ ∃ q1 q2 : Nat, aw_top cw q1 ∧ q1 < q2 ∧ c1 q1 = some (.inr (8, [.ref q2, ii_v 0])) ∧ c1 q2 = some (aw_ia E 8) ∧ c1 a = some (.inr (2, [ii_v n0, ii_v n1, ii_v n2, ii_v n3, ii_v n4, .ref q1, ii_v n3, ii_v n4, ii_v n2, ii_v 0, ii_v 0, ii_v 0, ii_v 0])) ∧ ∀ b : Nat, b ≠ a → b ≠ q1 → b ≠ q2 → c1 b = cw b) := by
  obtain ⟨Post, hPost⟩ : ∃ P : Option Value → (Nat → Option va_E) → Prop, P = (fun v c1 => v = none ∧ ∃ q1 q2 : Nat, aw_top cw q1 ∧ q1 < q2 ∧ c1 q1 = some (.inr (8, [.ref q2, ii_v 0])) ∧ c1 q2 = some (aw_ia E 8) ∧ c1 a = some (.inr (2, [ii_v n0, ii_v n1, ii_v n2, ii_v n3, ii_v n4, .ref q1, ii_v n3, ii_v n4, ii_v n2, ii_v 0, ii_v 0, ii_v 0, ii_v 0])) ∧ ∀ b : Nat, b ≠ a → b ≠ q1 → b ≠ q2 → c1 b = cw b) := ⟨_, rfl⟩
  rw [← hPost]
  refine aw_of RX1 [(0, .ref a), (1, ii_v n0), (2, ii_v n1), (3, ii_v n2), (4, ii_v n3), (5, ii_v n4)] hl (by decide) rfl (Nat.le_of_ble_eq_true rfl) rfl ?_
  intro p e s m args below meth c C hnm
  refine w_aload_n C dX1_init_0 rfl ?_
  refine w_oinit C ml_X1_1 dX1_init_1 (by decide) (Nat.le_of_ble_eq_true rfl) ?_
  refine w_aload_n C dX1_init_4 rfl ?_
  refine w_new (ci := 8) (fs := [.null, ii_v 0]) C iw_X7 rfl tyX7 tyX7_ok cl_X1_7 it_X7 in_X7 (fun j hj => by rcases (show j = 0 ∨ j = 1 by omega) with rfl | rfl <;> rfl) (by omega) dX1_init_5 ?_
  intro q1 t_q1
  have l_a_q1 : a < q1 := t_q1 _ _ k_a
  have t0 : aw_top cw q1 := fun b e h => t_q1 b _ (by skip; exact h)
  obtain ⟨w1_0, e_w1_0⟩ : ∃ x : Nat → Option va_E, x = aw_up cw q1 (.inr (8, [.null, ii_v 0])) := ⟨_, rfl⟩
  rw [← e_w1_0]
  replace k_a : w1_0 a = some (.inr (2, [ii_v 0, ii_v 0, ii_v 0, ii_v 0, ii_v 0, .null, ii_v 0, ii_v 0, ii_v 0, ii_v 0, ii_v 0, ii_v 0, ii_v 0])) := by rw [e_w1_0, aw_up_o _ (by omega)]; exact k_a
  have k_q1 : w1_0 q1 = some (.inr (8, [.null, ii_v 0])) := by rw [e_w1_0]; exact aw_up_s _ _ _
  refine w_dup C dX1_init_8 rfl ?_
  refine w_callIN (b := q1) (As := []) C (i_tour hl w1_0 q1  k_q1) co_X7_init in_X7 mn_X1_9 im_X7_init rfl ar_X7_init ⟨by decide, by decide, by omega, by omega⟩ rfl (Nat.le_of_ble_eq_true rfl) dX1_init_9 ?_
  intro v_w2_1 w2_1 z_w2_1
  obtain ⟨rfl, q2, t_q2, k_q2, n_w2_1_q1, f_w2_1⟩ := z_w2_1
  have l_q1_q2 : q1 < q2 := t_q2 _ _ k_q1
  replace k_a : w2_1 a = some (.inr (2, [ii_v 0, ii_v 0, ii_v 0, ii_v 0, ii_v 0, .null, ii_v 0, ii_v 0, ii_v 0, ii_v 0, ii_v 0, ii_v 0, ii_v 0])) := by rw [f_w2_1 _ (by omega) (by omega)]; exact k_a
  replace k_q1 := n_w2_1_q1
  refine w_vd ?_
  refine w_putF (ci := 2) (i := 5) C iw_X1 rfl (by decide) rfl tyX1 tyX1_ok nmX1 rfl hnm rfl fl_X1_10 k_a (Nat.le_of_ble_eq_true rfl) rfl rfl dX1_init_12 ?_
  obtain ⟨w3_2, e_w3_2⟩ : ∃ x : Nat → Option va_E, x = aw_up w2_1 a (.inr (2, [ii_v 0, ii_v 0, ii_v 0, ii_v 0, ii_v 0, .null, ii_v 0, ii_v 0, ii_v 0, ii_v 0, ii_v 0, ii_v 0, ii_v 0].set 5 (.ref q1))) := ⟨_, rfl⟩
  rw [← e_w3_2]
  replace k_q1 : w3_2 q1 = some (.inr (8, [.ref q2, ii_v 0])) := by rw [e_w3_2, aw_up_o _ (by omega)]; exact k_q1
  replace k_q2 : w3_2 q2 = some (aw_ia E 8) := by rw [e_w3_2, aw_up_o _ (by omega)]; exact k_q2
  replace k_a : w3_2 a = some (.inr (2, [ii_v 0, ii_v 0, ii_v 0, ii_v 0, ii_v 0, .ref q1, ii_v 0, ii_v 0, ii_v 0, ii_v 0, ii_v 0, ii_v 0, ii_v 0])) := by rw [e_w3_2]; exact aw_up_s _ _ _
  refine w_aload_n C dX1_init_15 rfl ?_
  refine w_iload_n C dX1_init_16 rfl ?_
  refine w_putF (ci := 2) (i := 0) C iw_X1 rfl (by decide) rfl tyX1 tyX1_ok nmX1 rfl hnm rfl fl_X1_16 k_a (Nat.le_of_ble_eq_true rfl) rfl rfl dX1_init_17 ?_
  obtain ⟨w4_3, e_w4_3⟩ : ∃ x : Nat → Option va_E, x = aw_up w3_2 a (.inr (2, [ii_v 0, ii_v 0, ii_v 0, ii_v 0, ii_v 0, .ref q1, ii_v 0, ii_v 0, ii_v 0, ii_v 0, ii_v 0, ii_v 0, ii_v 0].set 0 (ii_v n0))) := ⟨_, rfl⟩
  rw [← e_w4_3]
  replace k_q1 : w4_3 q1 = some (.inr (8, [.ref q2, ii_v 0])) := by rw [e_w4_3, aw_up_o _ (by omega)]; exact k_q1
  replace k_q2 : w4_3 q2 = some (aw_ia E 8) := by rw [e_w4_3, aw_up_o _ (by omega)]; exact k_q2
  replace k_a : w4_3 a = some (.inr (2, [ii_v n0, ii_v 0, ii_v 0, ii_v 0, ii_v 0, .ref q1, ii_v 0, ii_v 0, ii_v 0, ii_v 0, ii_v 0, ii_v 0, ii_v 0])) := by rw [e_w4_3]; exact aw_up_s _ _ _
  refine w_aload_n C dX1_init_20 rfl ?_
  refine w_iload_n C dX1_init_21 rfl ?_
  refine w_putF (ci := 2) (i := 1) C iw_X1 rfl (by decide) rfl tyX1 tyX1_ok nmX1 rfl hnm rfl fl_X1_20 k_a (Nat.le_of_ble_eq_true rfl) rfl rfl dX1_init_22 ?_
  obtain ⟨w5_4, e_w5_4⟩ : ∃ x : Nat → Option va_E, x = aw_up w4_3 a (.inr (2, [ii_v n0, ii_v 0, ii_v 0, ii_v 0, ii_v 0, .ref q1, ii_v 0, ii_v 0, ii_v 0, ii_v 0, ii_v 0, ii_v 0, ii_v 0].set 1 (ii_v n1))) := ⟨_, rfl⟩
  rw [← e_w5_4]
  replace k_q1 : w5_4 q1 = some (.inr (8, [.ref q2, ii_v 0])) := by rw [e_w5_4, aw_up_o _ (by omega)]; exact k_q1
  replace k_q2 : w5_4 q2 = some (aw_ia E 8) := by rw [e_w5_4, aw_up_o _ (by omega)]; exact k_q2
  replace k_a : w5_4 a = some (.inr (2, [ii_v n0, ii_v n1, ii_v 0, ii_v 0, ii_v 0, .ref q1, ii_v 0, ii_v 0, ii_v 0, ii_v 0, ii_v 0, ii_v 0, ii_v 0])) := by rw [e_w5_4]; exact aw_up_s _ _ _
  refine w_aload_n C dX1_init_25 rfl ?_
  refine w_iload_n C dX1_init_26 rfl ?_
  refine w_putF (ci := 2) (i := 2) C iw_X1 rfl (by decide) rfl tyX1 tyX1_ok nmX1 rfl hnm rfl fl_X1_23 k_a (Nat.le_of_ble_eq_true rfl) rfl rfl dX1_init_27 ?_
  obtain ⟨w6_5, e_w6_5⟩ : ∃ x : Nat → Option va_E, x = aw_up w5_4 a (.inr (2, [ii_v n0, ii_v n1, ii_v 0, ii_v 0, ii_v 0, .ref q1, ii_v 0, ii_v 0, ii_v 0, ii_v 0, ii_v 0, ii_v 0, ii_v 0].set 2 (ii_v n2))) := ⟨_, rfl⟩
  rw [← e_w6_5]
  replace k_q1 : w6_5 q1 = some (.inr (8, [.ref q2, ii_v 0])) := by rw [e_w6_5, aw_up_o _ (by omega)]; exact k_q1
  replace k_q2 : w6_5 q2 = some (aw_ia E 8) := by rw [e_w6_5, aw_up_o _ (by omega)]; exact k_q2
  replace k_a : w6_5 a = some (.inr (2, [ii_v n0, ii_v n1, ii_v n2, ii_v 0, ii_v 0, .ref q1, ii_v 0, ii_v 0, ii_v 0, ii_v 0, ii_v 0, ii_v 0, ii_v 0])) := by rw [e_w6_5]; exact aw_up_s _ _ _
  refine w_aload_n C dX1_init_30 rfl ?_
  refine w_iload C dX1_init_31 rfl ?_
  refine w_putF (ci := 2) (i := 3) C iw_X1 rfl (by decide) rfl tyX1 tyX1_ok nmX1 rfl hnm rfl fl_X1_26 k_a (Nat.le_of_ble_eq_true rfl) rfl rfl dX1_init_33 ?_
  obtain ⟨w7_6, e_w7_6⟩ : ∃ x : Nat → Option va_E, x = aw_up w6_5 a (.inr (2, [ii_v n0, ii_v n1, ii_v n2, ii_v 0, ii_v 0, .ref q1, ii_v 0, ii_v 0, ii_v 0, ii_v 0, ii_v 0, ii_v 0, ii_v 0].set 3 (ii_v n3))) := ⟨_, rfl⟩
  rw [← e_w7_6]
  replace k_q1 : w7_6 q1 = some (.inr (8, [.ref q2, ii_v 0])) := by rw [e_w7_6, aw_up_o _ (by omega)]; exact k_q1
  replace k_q2 : w7_6 q2 = some (aw_ia E 8) := by rw [e_w7_6, aw_up_o _ (by omega)]; exact k_q2
  replace k_a : w7_6 a = some (.inr (2, [ii_v n0, ii_v n1, ii_v n2, ii_v n3, ii_v 0, .ref q1, ii_v 0, ii_v 0, ii_v 0, ii_v 0, ii_v 0, ii_v 0, ii_v 0])) := by rw [e_w7_6]; exact aw_up_s _ _ _
  refine w_aload_n C dX1_init_36 rfl ?_
  refine w_iload C dX1_init_37 rfl ?_
  refine w_putF (ci := 2) (i := 4) C iw_X1 rfl (by decide) rfl tyX1 tyX1_ok nmX1 rfl hnm rfl fl_X1_29 k_a (Nat.le_of_ble_eq_true rfl) rfl rfl dX1_init_39 ?_
  obtain ⟨w8_7, e_w8_7⟩ : ∃ x : Nat → Option va_E, x = aw_up w7_6 a (.inr (2, [ii_v n0, ii_v n1, ii_v n2, ii_v n3, ii_v 0, .ref q1, ii_v 0, ii_v 0, ii_v 0, ii_v 0, ii_v 0, ii_v 0, ii_v 0].set 4 (ii_v n4))) := ⟨_, rfl⟩
  rw [← e_w8_7]
  replace k_q1 : w8_7 q1 = some (.inr (8, [.ref q2, ii_v 0])) := by rw [e_w8_7, aw_up_o _ (by omega)]; exact k_q1
  replace k_q2 : w8_7 q2 = some (aw_ia E 8) := by rw [e_w8_7, aw_up_o _ (by omega)]; exact k_q2
  replace k_a : w8_7 a = some (.inr (2, [ii_v n0, ii_v n1, ii_v n2, ii_v n3, ii_v n4, .ref q1, ii_v 0, ii_v 0, ii_v 0, ii_v 0, ii_v 0, ii_v 0, ii_v 0])) := by rw [e_w8_7]; exact aw_up_s _ _ _
  refine w_aload_n C dX1_init_42 rfl ?_
  refine w_iload C dX1_init_43 rfl ?_
  refine w_put (ci := 2) (i := 6) C iw_X1 rfl (by decide) (Or.inl rfl) tyX1 tyX1_ok nmX1 rfl rfl fl_X1_32 k_a (Nat.le_of_ble_eq_true rfl) rfl rfl dX1_init_45 ?_
  obtain ⟨w9_8, e_w9_8⟩ : ∃ x : Nat → Option va_E, x = aw_up w8_7 a (.inr (2, [ii_v n0, ii_v n1, ii_v n2, ii_v n3, ii_v n4, .ref q1, ii_v 0, ii_v 0, ii_v 0, ii_v 0, ii_v 0, ii_v 0, ii_v 0].set 6 (ii_v n3))) := ⟨_, rfl⟩
  rw [← e_w9_8]
  replace k_q1 : w9_8 q1 = some (.inr (8, [.ref q2, ii_v 0])) := by rw [e_w9_8, aw_up_o _ (by omega)]; exact k_q1
  replace k_q2 : w9_8 q2 = some (aw_ia E 8) := by rw [e_w9_8, aw_up_o _ (by omega)]; exact k_q2
  replace k_a : w9_8 a = some (.inr (2, [ii_v n0, ii_v n1, ii_v n2, ii_v n3, ii_v n4, .ref q1, ii_v n3, ii_v 0, ii_v 0, ii_v 0, ii_v 0, ii_v 0, ii_v 0])) := by rw [e_w9_8]; exact aw_up_s _ _ _
  refine w_aload_n C dX1_init_48 rfl ?_
  refine w_iload C dX1_init_49 rfl ?_
  refine w_put (ci := 2) (i := 7) C iw_X1 rfl (by decide) (Or.inl rfl) tyX1 tyX1_ok nmX1 rfl rfl fl_X1_35 k_a (Nat.le_of_ble_eq_true rfl) rfl rfl dX1_init_51 ?_
  obtain ⟨w10_9, e_w10_9⟩ : ∃ x : Nat → Option va_E, x = aw_up w9_8 a (.inr (2, [ii_v n0, ii_v n1, ii_v n2, ii_v n3, ii_v n4, .ref q1, ii_v n3, ii_v 0, ii_v 0, ii_v 0, ii_v 0, ii_v 0, ii_v 0].set 7 (ii_v n4))) := ⟨_, rfl⟩
  rw [← e_w10_9]
  replace k_q1 : w10_9 q1 = some (.inr (8, [.ref q2, ii_v 0])) := by rw [e_w10_9, aw_up_o _ (by omega)]; exact k_q1
  replace k_q2 : w10_9 q2 = some (aw_ia E 8) := by rw [e_w10_9, aw_up_o _ (by omega)]; exact k_q2
  replace k_a : w10_9 a = some (.inr (2, [ii_v n0, ii_v n1, ii_v n2, ii_v n3, ii_v n4, .ref q1, ii_v n3, ii_v n4, ii_v 0, ii_v 0, ii_v 0, ii_v 0, ii_v 0])) := by rw [e_w10_9]; exact aw_up_s _ _ _
  refine w_aload_n C dX1_init_54 rfl ?_
  refine w_iload_n C dX1_init_55 rfl ?_
  refine w_put (ci := 2) (i := 8) C iw_X1 rfl (by decide) (Or.inl rfl) tyX1 tyX1_ok nmX1 rfl rfl fl_X1_38 k_a (Nat.le_of_ble_eq_true rfl) rfl rfl dX1_init_56 ?_
  obtain ⟨w11_10, e_w11_10⟩ : ∃ x : Nat → Option va_E, x = aw_up w10_9 a (.inr (2, [ii_v n0, ii_v n1, ii_v n2, ii_v n3, ii_v n4, .ref q1, ii_v n3, ii_v n4, ii_v 0, ii_v 0, ii_v 0, ii_v 0, ii_v 0].set 8 (ii_v n2))) := ⟨_, rfl⟩
  rw [← e_w11_10]
  replace k_q1 : w11_10 q1 = some (.inr (8, [.ref q2, ii_v 0])) := by rw [e_w11_10, aw_up_o _ (by omega)]; exact k_q1
  replace k_q2 : w11_10 q2 = some (aw_ia E 8) := by rw [e_w11_10, aw_up_o _ (by omega)]; exact k_q2
  replace k_a : w11_10 a = some (.inr (2, [ii_v n0, ii_v n1, ii_v n2, ii_v n3, ii_v n4, .ref q1, ii_v n3, ii_v n4, ii_v n2, ii_v 0, ii_v 0, ii_v 0, ii_v 0])) := by rw [e_w11_10]; exact aw_up_s _ _ _
  refine w_vret C ?_ (by omega) (by omega) dX1_init_59
  rw [hPost]
  exact ⟨rfl, q1, q2, t0, (by omega), k_q1, k_q2, k_a, fun b h_a h_q1 h_q2 => by rw [e_w11_10, aw_up_o _ h_a, e_w10_9, aw_up_o _ h_a, e_w9_8, aw_up_o _ h_a, e_w8_7, aw_up_o _ h_a, e_w7_6, aw_up_o _ h_a, e_w6_5, aw_up_o _ h_a, e_w5_4, aw_up_o _ h_a, e_w4_3, aw_up_o _ h_a, e_w3_2, aw_up_o _ h_a, f_w2_1 b h_q1 h_q2, e_w1_0, aw_up_o _ h_q1]⟩
set_option maxRecDepth 20000 in
set_option maxHeartbeats 4000000 in
theorem i_row {l : Launch} {E : ab_E} {base : Nat} (hl : l.stackTraces = false) (cw : Nat → Option va_E) (a : Nat)  (k_a : cw a = some (.inr (10, [.null, .null, .null, .null, .null, .null, ii_v 0, ii_v 0, ii_v 0]))) : aw_M l E base yX9_init cX9_init 2 none 6 21 400 [.ref a] cw (fun v c1 => v = none ∧ ∃ q1 q2 q3 q4 q5 q6 q7 q8 q9 q10 q11 q12 q13 q14 q15 q16 q17 q18 q19 q20 q21 : Nat, aw_top cw q1 ∧ q1 < q2 ∧ q2 < q3 ∧ q3 < q4 ∧ q4 < q5 ∧ q5 < q6 ∧ q6 < q7 ∧ q7 < q8 ∧ q8 < q9 ∧ q9 < q10 ∧ q10 < q11 ∧ q11 < q12 ∧ q12 < q13 ∧ q13 < q14 ∧ q14 < q15 ∧ q15 < q16 ∧ q16 < q17 ∧ q17 < q18 ∧ q18 < q19 ∧ q19 < q20 ∧ q20 < q21 ∧ c1 q1 = some (.inr (0, [ii_v 0, .ref E.2.2, ii_v 0])) ∧ c1 q2 = some (.inr (1, [.ref q3, .ref q4])) ∧ c1 q3 = some (.inr (0, [ii_v 0, .ref E.2.2, ii_v 0])) ∧ c1 q4 = some (.inr (7, [ii_v 0, ii_v 0, ii_v 0, ii_v 0, ii_v 0, ii_v 0, ii_v 0, ii_v 0, ii_v 0, ii_v 0, ii_v (-1), ii_v 0, ii_v 0])) ∧ c1 q5 = some (.inr (5, [.ref q6, .ref q7, .ref q8, .ref q9, ii_v 0])) ∧ c1 q6 = some (aw_ia E 60) ∧ c1 q7 = some (aw_ia E 60) ∧ c1 q8 = some (aw_ia E 60) ∧ c1 q9 = some (aw_ia E 60) ∧ c1 q10 = some (.inr (4, [.ref q2, .ref q11])) ∧ c1 q11 = some (aw_ia E 8) ∧ c1 q12 = some (.inr (9, [.ref q2, .ref q13, ii_v 0, ii_v 0, ii_v 0, ii_v 0, ii_v 0])) ∧ c1 q13 = some (aw_ia E 8) ∧ c1 q14 = some (.inr (3, [.ref q10, .ref q12, .ref q15, ii_v 0, ii_v 0, ii_v 0, ii_v 0, ii_v 0])) ∧ c1 q15 = some (.inr (8, [.ref q16, ii_v 0])) ∧ c1 q16 = some (aw_ia E 8) ∧ c1 q17 = some (.inr (6, [.ref q10, .ref q12, .ref q18, .ref q20, ii_v 0])) ∧ c1 q18 = some (.inr (8, [.ref q19, ii_v 0])) ∧ c1 q19 = some (aw_ia E 8) ∧ c1 q20 = some (.inr (8, [.ref q21, ii_v 0])) ∧ c1 q21 = some (aw_ia E 8) ∧ c1 a = some (.inr (10, [.ref q1, .ref q2, .ref q5, .ref q10, .ref q14, .ref q17, ii_v 0, ii_v 50, ii_v 15])) ∧ ∀ b : Nat, b ≠ a → b ≠ q1 → b ≠ q2 → b ≠ q3 → b ≠ q4 → b ≠ q5 → b ≠ q6 → b ≠ q7 → b ≠ q8 → b ≠ q9 → b ≠ q10 → b ≠ q11 → b ≠ q12 → b ≠ q13 → b ≠ q14 → b ≠ q15 → b ≠ q16 → b ≠ q17 → b ≠ q18 → b ≠ q19 → b ≠ q20 → b ≠ q21 → c1 b = cw b) := by
  obtain ⟨Post, hPost⟩ : ∃ P : Option Value → (Nat → Option va_E) → Prop, P = (fun v c1 => v = none ∧ ∃ q1 q2 q3 q4 q5 q6 q7 q8 q9 q10 q11 q12 q13 q14 q15 q16 q17 q18 q19 q20 q21 : Nat, aw_top cw q1 ∧ q1 < q2 ∧ q2 < q3 ∧ q3 < q4 ∧ q4 < q5 ∧ q5 < q6 ∧ q6 < q7 ∧ q7 < q8 ∧ q8 < q9 ∧ q9 < q10 ∧ q10 < q11 ∧ q11 < q12 ∧ q12 < q13 ∧ q13 < q14 ∧ q14 < q15 ∧ q15 < q16 ∧ q16 < q17 ∧ q17 < q18 ∧ q18 < q19 ∧ q19 < q20 ∧ q20 < q21 ∧ c1 q1 = some (.inr (0, [ii_v 0, .ref E.2.2, ii_v 0])) ∧ c1 q2 = some (.inr (1, [.ref q3, .ref q4])) ∧ c1 q3 = some (.inr (0, [ii_v 0, .ref E.2.2, ii_v 0])) ∧ c1 q4 = some (.inr (7, [ii_v 0, ii_v 0, ii_v 0, ii_v 0, ii_v 0, ii_v 0, ii_v 0, ii_v 0, ii_v 0, ii_v 0, ii_v (-1), ii_v 0, ii_v 0])) ∧ c1 q5 = some (.inr (5, [.ref q6, .ref q7, .ref q8, .ref q9, ii_v 0])) ∧ c1 q6 = some (aw_ia E 60) ∧ c1 q7 = some (aw_ia E 60) ∧ c1 q8 = some (aw_ia E 60) ∧ c1 q9 = some (aw_ia E 60) ∧ c1 q10 = some (.inr (4, [.ref q2, .ref q11])) ∧ c1 q11 = some (aw_ia E 8) ∧ c1 q12 = some (.inr (9, [.ref q2, .ref q13, ii_v 0, ii_v 0, ii_v 0, ii_v 0, ii_v 0])) ∧ c1 q13 = some (aw_ia E 8) ∧ c1 q14 = some (.inr (3, [.ref q10, .ref q12, .ref q15, ii_v 0, ii_v 0, ii_v 0, ii_v 0, ii_v 0])) ∧ c1 q15 = some (.inr (8, [.ref q16, ii_v 0])) ∧ c1 q16 = some (aw_ia E 8) ∧ c1 q17 = some (.inr (6, [.ref q10, .ref q12, .ref q18, .ref q20, ii_v 0])) ∧ c1 q18 = some (.inr (8, [.ref q19, ii_v 0])) ∧ c1 q19 = some (aw_ia E 8) ∧ c1 q20 = some (.inr (8, [.ref q21, ii_v 0])) ∧ c1 q21 = some (aw_ia E 8) ∧ c1 a = some (.inr (10, [.ref q1, .ref q2, .ref q5, .ref q10, .ref q14, .ref q17, ii_v 0, ii_v 50, ii_v 15])) ∧ ∀ b : Nat, b ≠ a → b ≠ q1 → b ≠ q2 → b ≠ q3 → b ≠ q4 → b ≠ q5 → b ≠ q6 → b ≠ q7 → b ≠ q8 → b ≠ q9 → b ≠ q10 → b ≠ q11 → b ≠ q12 → b ≠ q13 → b ≠ q14 → b ≠ q15 → b ≠ q16 → b ≠ q17 → b ≠ q18 → b ≠ q19 → b ≠ q20 → b ≠ q21 → c1 b = cw b) := ⟨_, rfl⟩
  rw [← hPost]
  refine aw_of RX9 [(0, .ref a)] hl (by decide) rfl (Nat.le_of_ble_eq_true rfl) rfl ?_
  intro p e s m args below meth c C hnm
  refine w_aload_n C dX9_init_0 rfl ?_
  refine w_oinit C ml_X9_3 dX9_init_1 (by decide) (Nat.le_of_ble_eq_true rfl) ?_
  refine w_aload_n C dX9_init_4 rfl ?_
  refine w_new (ci := 0) (fs := [ii_v 0, .null, ii_v 0]) C iw_Jx4a65c rfl tyJx4a65c tyJx4a65c_ok cl_X9_9 it_Jx4a65c in_Jx4a65c (fun j hj => by rcases (show j = 0 ∨ j = 1 ∨ j = 2 by omega) with rfl | rfl | rfl <;> rfl) (by omega) dX9_init_5 ?_
  intro q1 t_q1
  have l_a_q1 : a < q1 := t_q1 _ _ k_a
  have t0 : aw_top cw q1 := fun b e h => t_q1 b _ (by skip; exact h)
  obtain ⟨w1_0, e_w1_0⟩ : ∃ x : Nat → Option va_E, x = aw_up cw q1 (.inr (0, [ii_v 0, .null, ii_v 0])) := ⟨_, rfl⟩
  rw [← e_w1_0]
  replace k_a : w1_0 a = some (.inr (10, [.null, .null, .null, .null, .null, .null, ii_v 0, ii_v 0, ii_v 0])) := by rw [e_w1_0, aw_up_o _ (by omega)]; exact k_a
  have k_q1 : w1_0 q1 = some (.inr (0, [ii_v 0, .null, ii_v 0])) := by rw [e_w1_0]; exact aw_up_s _ _ _
  refine w_dup C dX9_init_8 rfl ?_
  refine w_callI (b := q1) (As := []) C (i_list hl w1_0 q1 k_q1) co_Jx4a65c_init_da8c8 in_Jx4a65c ml_X9_11 im_Jx4a65c_init_da8c8 rfl ar_Jx4a65c_init_da8c8 ⟨by decide, by decide, by omega, by omega⟩ rfl (Nat.le_of_ble_eq_true rfl) dX9_init_9 ?_
  intro v_w2_1 w2_1 z_w2_1
  obtain ⟨rfl, n_w2_1_q1, f_w2_1⟩ := z_w2_1
  replace k_a : w2_1 a = some (.inr (10, [.null, .null, .null, .null, .null, .null, ii_v 0, ii_v 0, ii_v 0])) := by rw [f_w2_1 _ (by omega)]; exact k_a
  replace k_q1 := n_w2_1_q1
  refine w_vd ?_
  refine w_putF (ci := 10) (i := 0) C iw_X9 rfl (by decide) rfl tyX9 tyX9_ok nmX9 rfl hnm rfl fl_X9_12 k_a (Nat.le_of_ble_eq_true rfl) rfl rfl dX9_init_12 ?_
  obtain ⟨w3_2, e_w3_2⟩ : ∃ x : Nat → Option va_E, x = aw_up w2_1 a (.inr (10, [.null, .null, .null, .null, .null, .null, ii_v 0, ii_v 0, ii_v 0].set 0 (.ref q1))) := ⟨_, rfl⟩
  rw [← e_w3_2]
  replace k_q1 : w3_2 q1 = some (.inr (0, [ii_v 0, .ref E.2.2, ii_v 0])) := by rw [e_w3_2, aw_up_o _ (by omega)]; exact k_q1
  replace k_a : w3_2 a = some (.inr (10, [.ref q1, .null, .null, .null, .null, .null, ii_v 0, ii_v 0, ii_v 0])) := by rw [e_w3_2]; exact aw_up_s _ _ _
  refine w_aload_n C dX9_init_15 rfl ?_
  refine w_new (ci := 1) (fs := [.null, .null]) C iw_X0 rfl tyX0 tyX0_ok cl_X9_16 it_X0 in_X0 (fun j hj => by rcases (show j = 0 ∨ j = 1 by omega) with rfl | rfl <;> rfl) (by omega) dX9_init_16 ?_
  intro q2 t_q2
  have l_q1_q2 : q1 < q2 := t_q2 _ _ k_q1
  obtain ⟨w4_3, e_w4_3⟩ : ∃ x : Nat → Option va_E, x = aw_up w3_2 q2 (.inr (1, [.null, .null])) := ⟨_, rfl⟩
  rw [← e_w4_3]
  replace k_a : w4_3 a = some (.inr (10, [.ref q1, .null, .null, .null, .null, .null, ii_v 0, ii_v 0, ii_v 0])) := by rw [e_w4_3, aw_up_o _ (by omega)]; exact k_a
  replace k_q1 : w4_3 q1 = some (.inr (0, [ii_v 0, .ref E.2.2, ii_v 0])) := by rw [e_w4_3, aw_up_o _ (by omega)]; exact k_q1
  have k_q2 : w4_3 q2 = some (.inr (1, [.null, .null])) := by rw [e_w4_3]; exact aw_up_s _ _ _
  refine w_dup C dX9_init_19 rfl ?_
  refine w_callIN (b := q2) (As := []) C (i_book hl w4_3 q2  k_q2) co_X0_init in_X0 mn_X9_18 im_X0_init rfl ar_X0_init ⟨by decide, by decide, by omega, by omega⟩ rfl (Nat.le_of_ble_eq_true rfl) dX9_init_20 ?_
  intro v_w5_4 w5_4 z_w5_4
  obtain ⟨rfl, q3, q4, t_q3, l_q3_q4, k_q3, k_q4, n_w5_4_q2, f_w5_4⟩ := z_w5_4
  have l_q2_q3 : q2 < q3 := t_q3 _ _ k_q2
  replace k_a : w5_4 a = some (.inr (10, [.ref q1, .null, .null, .null, .null, .null, ii_v 0, ii_v 0, ii_v 0])) := by rw [f_w5_4 _ (by omega) (by omega) (by omega)]; exact k_a
  replace k_q1 : w5_4 q1 = some (.inr (0, [ii_v 0, .ref E.2.2, ii_v 0])) := by rw [f_w5_4 _ (by omega) (by omega) (by omega)]; exact k_q1
  replace k_q2 := n_w5_4_q2
  refine w_vd ?_
  refine w_putF (ci := 10) (i := 1) C iw_X9 rfl (by decide) rfl tyX9 tyX9_ok nmX9 rfl hnm rfl fl_X9_19 k_a (Nat.le_of_ble_eq_true rfl) rfl rfl dX9_init_23 ?_
  obtain ⟨w6_5, e_w6_5⟩ : ∃ x : Nat → Option va_E, x = aw_up w5_4 a (.inr (10, [.ref q1, .null, .null, .null, .null, .null, ii_v 0, ii_v 0, ii_v 0].set 1 (.ref q2))) := ⟨_, rfl⟩
  rw [← e_w6_5]
  replace k_q1 : w6_5 q1 = some (.inr (0, [ii_v 0, .ref E.2.2, ii_v 0])) := by rw [e_w6_5, aw_up_o _ (by omega)]; exact k_q1
  replace k_q2 : w6_5 q2 = some (.inr (1, [.ref q3, .ref q4])) := by rw [e_w6_5, aw_up_o _ (by omega)]; exact k_q2
  replace k_q3 : w6_5 q3 = some (.inr (0, [ii_v 0, .ref E.2.2, ii_v 0])) := by rw [e_w6_5, aw_up_o _ (by omega)]; exact k_q3
  replace k_q4 : w6_5 q4 = some (.inr (7, [ii_v 0, ii_v 0, ii_v 0, ii_v 0, ii_v 0, ii_v 0, ii_v 0, ii_v 0, ii_v 0, ii_v 0, ii_v (-1), ii_v 0, ii_v 0])) := by rw [e_w6_5, aw_up_o _ (by omega)]; exact k_q4
  replace k_a : w6_5 a = some (.inr (10, [.ref q1, .ref q2, .null, .null, .null, .null, ii_v 0, ii_v 0, ii_v 0])) := by rw [e_w6_5]; exact aw_up_s _ _ _
  refine w_aload_n C dX9_init_26 rfl ?_
  refine w_new (ci := 5) (fs := [.null, .null, .null, .null, ii_v 0]) C iw_X4 rfl tyX4 tyX4_ok cl_X9_23 it_X4 in_X4 (fun j hj => by rcases (show j = 0 ∨ j = 1 ∨ j = 2 ∨ j = 3 ∨ j = 4 by omega) with rfl | rfl | rfl | rfl | rfl <;> rfl) (by omega) dX9_init_27 ?_
  intro q5 t_q5
  have l_q4_q5 : q4 < q5 := t_q5 _ _ k_q4
  obtain ⟨w7_6, e_w7_6⟩ : ∃ x : Nat → Option va_E, x = aw_up w6_5 q5 (.inr (5, [.null, .null, .null, .null, ii_v 0])) := ⟨_, rfl⟩
  rw [← e_w7_6]
  replace k_a : w7_6 a = some (.inr (10, [.ref q1, .ref q2, .null, .null, .null, .null, ii_v 0, ii_v 0, ii_v 0])) := by rw [e_w7_6, aw_up_o _ (by omega)]; exact k_a
  replace k_q1 : w7_6 q1 = some (.inr (0, [ii_v 0, .ref E.2.2, ii_v 0])) := by rw [e_w7_6, aw_up_o _ (by omega)]; exact k_q1
  replace k_q2 : w7_6 q2 = some (.inr (1, [.ref q3, .ref q4])) := by rw [e_w7_6, aw_up_o _ (by omega)]; exact k_q2
  replace k_q3 : w7_6 q3 = some (.inr (0, [ii_v 0, .ref E.2.2, ii_v 0])) := by rw [e_w7_6, aw_up_o _ (by omega)]; exact k_q3
  replace k_q4 : w7_6 q4 = some (.inr (7, [ii_v 0, ii_v 0, ii_v 0, ii_v 0, ii_v 0, ii_v 0, ii_v 0, ii_v 0, ii_v 0, ii_v 0, ii_v (-1), ii_v 0, ii_v 0])) := by rw [e_w7_6, aw_up_o _ (by omega)]; exact k_q4
  have k_q5 : w7_6 q5 = some (.inr (5, [.null, .null, .null, .null, ii_v 0])) := by rw [e_w7_6]; exact aw_up_s _ _ _
  refine w_dup C dX9_init_30 rfl ?_
  refine w_callIN (b := q5) (As := []) C (i_jour hl w7_6 q5  k_q5) co_X4_init in_X4 mn_X9_25 im_X4_init rfl ar_X4_init ⟨by decide, by decide, by omega, by omega⟩ rfl (Nat.le_of_ble_eq_true rfl) dX9_init_31 ?_
  intro v_w8_7 w8_7 z_w8_7
  obtain ⟨rfl, q6, q7, q8, q9, t_q6, l_q6_q7, l_q7_q8, l_q8_q9, k_q6, k_q7, k_q8, k_q9, n_w8_7_q5, f_w8_7⟩ := z_w8_7
  have l_q5_q6 : q5 < q6 := t_q6 _ _ k_q5
  replace k_a : w8_7 a = some (.inr (10, [.ref q1, .ref q2, .null, .null, .null, .null, ii_v 0, ii_v 0, ii_v 0])) := by rw [f_w8_7 _ (by omega) (by omega) (by omega) (by omega) (by omega)]; exact k_a
  replace k_q1 : w8_7 q1 = some (.inr (0, [ii_v 0, .ref E.2.2, ii_v 0])) := by rw [f_w8_7 _ (by omega) (by omega) (by omega) (by omega) (by omega)]; exact k_q1
  replace k_q2 : w8_7 q2 = some (.inr (1, [.ref q3, .ref q4])) := by rw [f_w8_7 _ (by omega) (by omega) (by omega) (by omega) (by omega)]; exact k_q2
  replace k_q3 : w8_7 q3 = some (.inr (0, [ii_v 0, .ref E.2.2, ii_v 0])) := by rw [f_w8_7 _ (by omega) (by omega) (by omega) (by omega) (by omega)]; exact k_q3
  replace k_q4 : w8_7 q4 = some (.inr (7, [ii_v 0, ii_v 0, ii_v 0, ii_v 0, ii_v 0, ii_v 0, ii_v 0, ii_v 0, ii_v 0, ii_v 0, ii_v (-1), ii_v 0, ii_v 0])) := by rw [f_w8_7 _ (by omega) (by omega) (by omega) (by omega) (by omega)]; exact k_q4
  replace k_q5 := n_w8_7_q5
  refine w_vd ?_
  refine w_putF (ci := 10) (i := 2) C iw_X9 rfl (by decide) rfl tyX9 tyX9_ok nmX9 rfl hnm rfl fl_X9_26 k_a (Nat.le_of_ble_eq_true rfl) rfl rfl dX9_init_34 ?_
  obtain ⟨w9_8, e_w9_8⟩ : ∃ x : Nat → Option va_E, x = aw_up w8_7 a (.inr (10, [.ref q1, .ref q2, .null, .null, .null, .null, ii_v 0, ii_v 0, ii_v 0].set 2 (.ref q5))) := ⟨_, rfl⟩
  rw [← e_w9_8]
  replace k_q1 : w9_8 q1 = some (.inr (0, [ii_v 0, .ref E.2.2, ii_v 0])) := by rw [e_w9_8, aw_up_o _ (by omega)]; exact k_q1
  replace k_q2 : w9_8 q2 = some (.inr (1, [.ref q3, .ref q4])) := by rw [e_w9_8, aw_up_o _ (by omega)]; exact k_q2
  replace k_q3 : w9_8 q3 = some (.inr (0, [ii_v 0, .ref E.2.2, ii_v 0])) := by rw [e_w9_8, aw_up_o _ (by omega)]; exact k_q3
  replace k_q4 : w9_8 q4 = some (.inr (7, [ii_v 0, ii_v 0, ii_v 0, ii_v 0, ii_v 0, ii_v 0, ii_v 0, ii_v 0, ii_v 0, ii_v 0, ii_v (-1), ii_v 0, ii_v 0])) := by rw [e_w9_8, aw_up_o _ (by omega)]; exact k_q4
  replace k_q5 : w9_8 q5 = some (.inr (5, [.ref q6, .ref q7, .ref q8, .ref q9, ii_v 0])) := by rw [e_w9_8, aw_up_o _ (by omega)]; exact k_q5
  replace k_q6 : w9_8 q6 = some (aw_ia E 60) := by rw [e_w9_8, aw_up_o _ (by omega)]; exact k_q6
  replace k_q7 : w9_8 q7 = some (aw_ia E 60) := by rw [e_w9_8, aw_up_o _ (by omega)]; exact k_q7
  replace k_q8 : w9_8 q8 = some (aw_ia E 60) := by rw [e_w9_8, aw_up_o _ (by omega)]; exact k_q8
  replace k_q9 : w9_8 q9 = some (aw_ia E 60) := by rw [e_w9_8, aw_up_o _ (by omega)]; exact k_q9
  replace k_a : w9_8 a = some (.inr (10, [.ref q1, .ref q2, .ref q5, .null, .null, .null, ii_v 0, ii_v 0, ii_v 0])) := by rw [e_w9_8]; exact aw_up_s _ _ _
  refine w_aload_n C dX9_init_37 rfl ?_
  refine w_new (ci := 4) (fs := [.null, .null]) C iw_X3 rfl tyX3 tyX3_ok cl_X9_30 it_X3 in_X3 (fun j hj => by rcases (show j = 0 ∨ j = 1 by omega) with rfl | rfl <;> rfl) (by omega) dX9_init_38 ?_
  intro q10 t_q10
  have l_q9_q10 : q9 < q10 := t_q10 _ _ k_q9
  obtain ⟨w10_9, e_w10_9⟩ : ∃ x : Nat → Option va_E, x = aw_up w9_8 q10 (.inr (4, [.null, .null])) := ⟨_, rfl⟩
  rw [← e_w10_9]
  replace k_a : w10_9 a = some (.inr (10, [.ref q1, .ref q2, .ref q5, .null, .null, .null, ii_v 0, ii_v 0, ii_v 0])) := by rw [e_w10_9, aw_up_o _ (by omega)]; exact k_a
  replace k_q1 : w10_9 q1 = some (.inr (0, [ii_v 0, .ref E.2.2, ii_v 0])) := by rw [e_w10_9, aw_up_o _ (by omega)]; exact k_q1
  replace k_q2 : w10_9 q2 = some (.inr (1, [.ref q3, .ref q4])) := by rw [e_w10_9, aw_up_o _ (by omega)]; exact k_q2
  replace k_q3 : w10_9 q3 = some (.inr (0, [ii_v 0, .ref E.2.2, ii_v 0])) := by rw [e_w10_9, aw_up_o _ (by omega)]; exact k_q3
  replace k_q4 : w10_9 q4 = some (.inr (7, [ii_v 0, ii_v 0, ii_v 0, ii_v 0, ii_v 0, ii_v 0, ii_v 0, ii_v 0, ii_v 0, ii_v 0, ii_v (-1), ii_v 0, ii_v 0])) := by rw [e_w10_9, aw_up_o _ (by omega)]; exact k_q4
  replace k_q5 : w10_9 q5 = some (.inr (5, [.ref q6, .ref q7, .ref q8, .ref q9, ii_v 0])) := by rw [e_w10_9, aw_up_o _ (by omega)]; exact k_q5
  replace k_q6 : w10_9 q6 = some (aw_ia E 60) := by rw [e_w10_9, aw_up_o _ (by omega)]; exact k_q6
  replace k_q7 : w10_9 q7 = some (aw_ia E 60) := by rw [e_w10_9, aw_up_o _ (by omega)]; exact k_q7
  replace k_q8 : w10_9 q8 = some (aw_ia E 60) := by rw [e_w10_9, aw_up_o _ (by omega)]; exact k_q8
  replace k_q9 : w10_9 q9 = some (aw_ia E 60) := by rw [e_w10_9, aw_up_o _ (by omega)]; exact k_q9
  have k_q10 : w10_9 q10 = some (.inr (4, [.null, .null])) := by rw [e_w10_9]; exact aw_up_s _ _ _
  refine w_dup C dX9_init_41 rfl ?_
  refine w_aload_n C dX9_init_42 rfl ?_
  refine w_get (ci := 10) (i := 1) (v := .ref q2) C iw_X9 rfl (by decide) (Or.inl rfl) fl_X9_19 k_a rfl dX9_init_43 ?_
  refine w_callIN (b := q10) (As := [.ref q2]) C (i_insp hl w10_9 q10 q2 k_q10) co_X3_init in_X3 mn_X9_32 im_X3_init rfl ar_X3_init ⟨by decide, by decide, by omega, by omega⟩ rfl (Nat.le_of_ble_eq_true rfl) dX9_init_46 ?_
  intro v_w11_10 w11_10 z_w11_10
  obtain ⟨rfl, q11, t_q11, k_q11, n_w11_10_q10, f_w11_10⟩ := z_w11_10
  have l_q10_q11 : q10 < q11 := t_q11 _ _ k_q10
  replace k_a : w11_10 a = some (.inr (10, [.ref q1, .ref q2, .ref q5, .null, .null, .null, ii_v 0, ii_v 0, ii_v 0])) := by rw [f_w11_10 _ (by omega) (by omega)]; exact k_a
  replace k_q1 : w11_10 q1 = some (.inr (0, [ii_v 0, .ref E.2.2, ii_v 0])) := by rw [f_w11_10 _ (by omega) (by omega)]; exact k_q1
  replace k_q2 : w11_10 q2 = some (.inr (1, [.ref q3, .ref q4])) := by rw [f_w11_10 _ (by omega) (by omega)]; exact k_q2
  replace k_q3 : w11_10 q3 = some (.inr (0, [ii_v 0, .ref E.2.2, ii_v 0])) := by rw [f_w11_10 _ (by omega) (by omega)]; exact k_q3
  replace k_q4 : w11_10 q4 = some (.inr (7, [ii_v 0, ii_v 0, ii_v 0, ii_v 0, ii_v 0, ii_v 0, ii_v 0, ii_v 0, ii_v 0, ii_v 0, ii_v (-1), ii_v 0, ii_v 0])) := by rw [f_w11_10 _ (by omega) (by omega)]; exact k_q4
  replace k_q5 : w11_10 q5 = some (.inr (5, [.ref q6, .ref q7, .ref q8, .ref q9, ii_v 0])) := by rw [f_w11_10 _ (by omega) (by omega)]; exact k_q5
  replace k_q6 : w11_10 q6 = some (aw_ia E 60) := by rw [f_w11_10 _ (by omega) (by omega)]; exact k_q6
  replace k_q7 : w11_10 q7 = some (aw_ia E 60) := by rw [f_w11_10 _ (by omega) (by omega)]; exact k_q7
  replace k_q8 : w11_10 q8 = some (aw_ia E 60) := by rw [f_w11_10 _ (by omega) (by omega)]; exact k_q8
  replace k_q9 : w11_10 q9 = some (aw_ia E 60) := by rw [f_w11_10 _ (by omega) (by omega)]; exact k_q9
  replace k_q10 := n_w11_10_q10
  refine w_vd ?_
  refine w_putF (ci := 10) (i := 3) C iw_X9 rfl (by decide) rfl tyX9 tyX9_ok nmX9 rfl hnm rfl fl_X9_35 k_a (Nat.le_of_ble_eq_true rfl) rfl rfl dX9_init_49 ?_
  obtain ⟨w12_11, e_w12_11⟩ : ∃ x : Nat → Option va_E, x = aw_up w11_10 a (.inr (10, [.ref q1, .ref q2, .ref q5, .null, .null, .null, ii_v 0, ii_v 0, ii_v 0].set 3 (.ref q10))) := ⟨_, rfl⟩
  rw [← e_w12_11]
  replace k_q1 : w12_11 q1 = some (.inr (0, [ii_v 0, .ref E.2.2, ii_v 0])) := by rw [e_w12_11, aw_up_o _ (by omega)]; exact k_q1
  replace k_q2 : w12_11 q2 = some (.inr (1, [.ref q3, .ref q4])) := by rw [e_w12_11, aw_up_o _ (by omega)]; exact k_q2
  replace k_q3 : w12_11 q3 = some (.inr (0, [ii_v 0, .ref E.2.2, ii_v 0])) := by rw [e_w12_11, aw_up_o _ (by omega)]; exact k_q3
  replace k_q4 : w12_11 q4 = some (.inr (7, [ii_v 0, ii_v 0, ii_v 0, ii_v 0, ii_v 0, ii_v 0, ii_v 0, ii_v 0, ii_v 0, ii_v 0, ii_v (-1), ii_v 0, ii_v 0])) := by rw [e_w12_11, aw_up_o _ (by omega)]; exact k_q4
  replace k_q5 : w12_11 q5 = some (.inr (5, [.ref q6, .ref q7, .ref q8, .ref q9, ii_v 0])) := by rw [e_w12_11, aw_up_o _ (by omega)]; exact k_q5
  replace k_q6 : w12_11 q6 = some (aw_ia E 60) := by rw [e_w12_11, aw_up_o _ (by omega)]; exact k_q6
  replace k_q7 : w12_11 q7 = some (aw_ia E 60) := by rw [e_w12_11, aw_up_o _ (by omega)]; exact k_q7
  replace k_q8 : w12_11 q8 = some (aw_ia E 60) := by rw [e_w12_11, aw_up_o _ (by omega)]; exact k_q8
  replace k_q9 : w12_11 q9 = some (aw_ia E 60) := by rw [e_w12_11, aw_up_o _ (by omega)]; exact k_q9
  replace k_q10 : w12_11 q10 = some (.inr (4, [.ref q2, .ref q11])) := by rw [e_w12_11, aw_up_o _ (by omega)]; exact k_q10
  replace k_q11 : w12_11 q11 = some (aw_ia E 8) := by rw [e_w12_11, aw_up_o _ (by omega)]; exact k_q11
  replace k_a : w12_11 a = some (.inr (10, [.ref q1, .ref q2, .ref q5, .ref q10, .null, .null, ii_v 0, ii_v 0, ii_v 0])) := by rw [e_w12_11]; exact aw_up_s _ _ _
  refine w_new (ci := 9) (fs := [.null, .null, ii_v 0, ii_v 0, ii_v 0, ii_v 0, ii_v 0]) C iw_X8 rfl tyX8 tyX8_ok cl_X9_39 it_X8 in_X8 (fun j hj => by rcases (show j = 0 ∨ j = 1 ∨ j = 2 ∨ j = 3 ∨ j = 4 ∨ j = 5 ∨ j = 6 by omega) with rfl | rfl | rfl | rfl | rfl | rfl | rfl <;> rfl) (by omega) dX9_init_52 ?_
  intro q12 t_q12
  have l_q11_q12 : q11 < q12 := t_q12 _ _ k_q11
  obtain ⟨w13_12, e_w13_12⟩ : ∃ x : Nat → Option va_E, x = aw_up w12_11 q12 (.inr (9, [.null, .null, ii_v 0, ii_v 0, ii_v 0, ii_v 0, ii_v 0])) := ⟨_, rfl⟩
  rw [← e_w13_12]
  replace k_a : w13_12 a = some (.inr (10, [.ref q1, .ref q2, .ref q5, .ref q10, .null, .null, ii_v 0, ii_v 0, ii_v 0])) := by rw [e_w13_12, aw_up_o _ (by omega)]; exact k_a
  replace k_q1 : w13_12 q1 = some (.inr (0, [ii_v 0, .ref E.2.2, ii_v 0])) := by rw [e_w13_12, aw_up_o _ (by omega)]; exact k_q1
  replace k_q2 : w13_12 q2 = some (.inr (1, [.ref q3, .ref q4])) := by rw [e_w13_12, aw_up_o _ (by omega)]; exact k_q2
  replace k_q3 : w13_12 q3 = some (.inr (0, [ii_v 0, .ref E.2.2, ii_v 0])) := by rw [e_w13_12, aw_up_o _ (by omega)]; exact k_q3
  replace k_q4 : w13_12 q4 = some (.inr (7, [ii_v 0, ii_v 0, ii_v 0, ii_v 0, ii_v 0, ii_v 0, ii_v 0, ii_v 0, ii_v 0, ii_v 0, ii_v (-1), ii_v 0, ii_v 0])) := by rw [e_w13_12, aw_up_o _ (by omega)]; exact k_q4
  replace k_q5 : w13_12 q5 = some (.inr (5, [.ref q6, .ref q7, .ref q8, .ref q9, ii_v 0])) := by rw [e_w13_12, aw_up_o _ (by omega)]; exact k_q5
  replace k_q6 : w13_12 q6 = some (aw_ia E 60) := by rw [e_w13_12, aw_up_o _ (by omega)]; exact k_q6
  replace k_q7 : w13_12 q7 = some (aw_ia E 60) := by rw [e_w13_12, aw_up_o _ (by omega)]; exact k_q7
  replace k_q8 : w13_12 q8 = some (aw_ia E 60) := by rw [e_w13_12, aw_up_o _ (by omega)]; exact k_q8
  replace k_q9 : w13_12 q9 = some (aw_ia E 60) := by rw [e_w13_12, aw_up_o _ (by omega)]; exact k_q9
  replace k_q10 : w13_12 q10 = some (.inr (4, [.ref q2, .ref q11])) := by rw [e_w13_12, aw_up_o _ (by omega)]; exact k_q10
  replace k_q11 : w13_12 q11 = some (aw_ia E 8) := by rw [e_w13_12, aw_up_o _ (by omega)]; exact k_q11
  have k_q12 : w13_12 q12 = some (.inr (9, [.null, .null, ii_v 0, ii_v 0, ii_v 0, ii_v 0, ii_v 0])) := by rw [e_w13_12]; exact aw_up_s _ _ _
  refine w_dup C dX9_init_55 rfl ?_
  refine w_aload_n C dX9_init_56 rfl ?_
  refine w_get (ci := 10) (i := 1) (v := .ref q2) C iw_X9 rfl (by decide) (Or.inl rfl) fl_X9_19 k_a rfl dX9_init_57 ?_
  refine w_callIN (b := q12) (As := [.ref q2]) C (i_walk hl w13_12 q12 q2 k_q12) co_X8_init in_X8 mn_X9_41 im_X8_init rfl ar_X8_init ⟨by decide, by decide, by omega, by omega⟩ rfl (Nat.le_of_ble_eq_true rfl) dX9_init_60 ?_
  intro v_w14_13 w14_13 z_w14_13
  obtain ⟨rfl, q13, t_q13, k_q13, n_w14_13_q12, f_w14_13⟩ := z_w14_13
  have l_q12_q13 : q12 < q13 := t_q13 _ _ k_q12
  replace k_a : w14_13 a = some (.inr (10, [.ref q1, .ref q2, .ref q5, .ref q10, .null, .null, ii_v 0, ii_v 0, ii_v 0])) := by rw [f_w14_13 _ (by omega) (by omega)]; exact k_a
  replace k_q1 : w14_13 q1 = some (.inr (0, [ii_v 0, .ref E.2.2, ii_v 0])) := by rw [f_w14_13 _ (by omega) (by omega)]; exact k_q1
  replace k_q2 : w14_13 q2 = some (.inr (1, [.ref q3, .ref q4])) := by rw [f_w14_13 _ (by omega) (by omega)]; exact k_q2
  replace k_q3 : w14_13 q3 = some (.inr (0, [ii_v 0, .ref E.2.2, ii_v 0])) := by rw [f_w14_13 _ (by omega) (by omega)]; exact k_q3
  replace k_q4 : w14_13 q4 = some (.inr (7, [ii_v 0, ii_v 0, ii_v 0, ii_v 0, ii_v 0, ii_v 0, ii_v 0, ii_v 0, ii_v 0, ii_v 0, ii_v (-1), ii_v 0, ii_v 0])) := by rw [f_w14_13 _ (by omega) (by omega)]; exact k_q4
  replace k_q5 : w14_13 q5 = some (.inr (5, [.ref q6, .ref q7, .ref q8, .ref q9, ii_v 0])) := by rw [f_w14_13 _ (by omega) (by omega)]; exact k_q5
  replace k_q6 : w14_13 q6 = some (aw_ia E 60) := by rw [f_w14_13 _ (by omega) (by omega)]; exact k_q6
  replace k_q7 : w14_13 q7 = some (aw_ia E 60) := by rw [f_w14_13 _ (by omega) (by omega)]; exact k_q7
  replace k_q8 : w14_13 q8 = some (aw_ia E 60) := by rw [f_w14_13 _ (by omega) (by omega)]; exact k_q8
  replace k_q9 : w14_13 q9 = some (aw_ia E 60) := by rw [f_w14_13 _ (by omega) (by omega)]; exact k_q9
  replace k_q10 : w14_13 q10 = some (.inr (4, [.ref q2, .ref q11])) := by rw [f_w14_13 _ (by omega) (by omega)]; exact k_q10
  replace k_q11 : w14_13 q11 = some (aw_ia E 8) := by rw [f_w14_13 _ (by omega) (by omega)]; exact k_q11
  replace k_q12 := n_w14_13_q12
  refine w_vd ?_
  refine w_astore_n (L' := [(0, .ref a), (1, .ref q12)]) C dX9_init_63 (by decide) rfl ?_
  refine w_aload_n C dX9_init_64 rfl ?_
  refine w_new (ci := 3) (fs := [.null, .null, .null, ii_v 0, ii_v 0, ii_v 0, ii_v 0, ii_v 0]) C iw_X2 rfl tyX2 tyX2_ok cl_X9_42 it_X2 in_X2 (fun j hj => by rcases (show j = 0 ∨ j = 1 ∨ j = 2 ∨ j = 3 ∨ j = 4 ∨ j = 5 ∨ j = 6 ∨ j = 7 by omega) with rfl | rfl | rfl | rfl | rfl | rfl | rfl | rfl <;> rfl) (by omega) dX9_init_65 ?_
  intro q14 t_q14
  have l_q13_q14 : q13 < q14 := t_q14 _ _ k_q13
  obtain ⟨w15_14, e_w15_14⟩ : ∃ x : Nat → Option va_E, x = aw_up w14_13 q14 (.inr (3, [.null, .null, .null, ii_v 0, ii_v 0, ii_v 0, ii_v 0, ii_v 0])) := ⟨_, rfl⟩
  rw [← e_w15_14]
  replace k_a : w15_14 a = some (.inr (10, [.ref q1, .ref q2, .ref q5, .ref q10, .null, .null, ii_v 0, ii_v 0, ii_v 0])) := by rw [e_w15_14, aw_up_o _ (by omega)]; exact k_a
  replace k_q1 : w15_14 q1 = some (.inr (0, [ii_v 0, .ref E.2.2, ii_v 0])) := by rw [e_w15_14, aw_up_o _ (by omega)]; exact k_q1
  replace k_q2 : w15_14 q2 = some (.inr (1, [.ref q3, .ref q4])) := by rw [e_w15_14, aw_up_o _ (by omega)]; exact k_q2
  replace k_q3 : w15_14 q3 = some (.inr (0, [ii_v 0, .ref E.2.2, ii_v 0])) := by rw [e_w15_14, aw_up_o _ (by omega)]; exact k_q3
  replace k_q4 : w15_14 q4 = some (.inr (7, [ii_v 0, ii_v 0, ii_v 0, ii_v 0, ii_v 0, ii_v 0, ii_v 0, ii_v 0, ii_v 0, ii_v 0, ii_v (-1), ii_v 0, ii_v 0])) := by rw [e_w15_14, aw_up_o _ (by omega)]; exact k_q4
  replace k_q5 : w15_14 q5 = some (.inr (5, [.ref q6, .ref q7, .ref q8, .ref q9, ii_v 0])) := by rw [e_w15_14, aw_up_o _ (by omega)]; exact k_q5
  replace k_q6 : w15_14 q6 = some (aw_ia E 60) := by rw [e_w15_14, aw_up_o _ (by omega)]; exact k_q6
  replace k_q7 : w15_14 q7 = some (aw_ia E 60) := by rw [e_w15_14, aw_up_o _ (by omega)]; exact k_q7
  replace k_q8 : w15_14 q8 = some (aw_ia E 60) := by rw [e_w15_14, aw_up_o _ (by omega)]; exact k_q8
  replace k_q9 : w15_14 q9 = some (aw_ia E 60) := by rw [e_w15_14, aw_up_o _ (by omega)]; exact k_q9
  replace k_q10 : w15_14 q10 = some (.inr (4, [.ref q2, .ref q11])) := by rw [e_w15_14, aw_up_o _ (by omega)]; exact k_q10
  replace k_q11 : w15_14 q11 = some (aw_ia E 8) := by rw [e_w15_14, aw_up_o _ (by omega)]; exact k_q11
  replace k_q12 : w15_14 q12 = some (.inr (9, [.ref q2, .ref q13, ii_v 0, ii_v 0, ii_v 0, ii_v 0, ii_v 0])) := by rw [e_w15_14, aw_up_o _ (by omega)]; exact k_q12
  replace k_q13 : w15_14 q13 = some (aw_ia E 8) := by rw [e_w15_14, aw_up_o _ (by omega)]; exact k_q13
  have k_q14 : w15_14 q14 = some (.inr (3, [.null, .null, .null, ii_v 0, ii_v 0, ii_v 0, ii_v 0, ii_v 0])) := by rw [e_w15_14]; exact aw_up_s _ _ _
  refine w_dup C dX9_init_68 rfl ?_
  refine w_aload_n C dX9_init_69 rfl ?_
  refine w_get (ci := 10) (i := 3) (v := .ref q10) C iw_X9 rfl (by decide) (Or.inl rfl) fl_X9_35 k_a rfl dX9_init_70 ?_
  refine w_aload_n C dX9_init_73 rfl ?_
  refine w_callIN (b := q14) (As := [.ref q10, .ref q12]) C (i_choice hl w15_14 q14 q10 q12 k_q14) co_X2_init in_X2 mn_X9_44 im_X2_init rfl ar_X2_init ⟨by decide, by decide, by omega, by omega⟩ rfl (Nat.le_of_ble_eq_true rfl) dX9_init_74 ?_
  intro v_w16_15 w16_15 z_w16_15
  obtain ⟨rfl, q15, q16, t_q15, l_q15_q16, k_q15, k_q16, n_w16_15_q14, f_w16_15⟩ := z_w16_15
  have l_q14_q15 : q14 < q15 := t_q15 _ _ k_q14
  replace k_a : w16_15 a = some (.inr (10, [.ref q1, .ref q2, .ref q5, .ref q10, .null, .null, ii_v 0, ii_v 0, ii_v 0])) := by rw [f_w16_15 _ (by omega) (by omega) (by omega)]; exact k_a
  replace k_q1 : w16_15 q1 = some (.inr (0, [ii_v 0, .ref E.2.2, ii_v 0])) := by rw [f_w16_15 _ (by omega) (by omega) (by omega)]; exact k_q1
  replace k_q2 : w16_15 q2 = some (.inr (1, [.ref q3, .ref q4])) := by rw [f_w16_15 _ (by omega) (by omega) (by omega)]; exact k_q2
  replace k_q3 : w16_15 q3 = some (.inr (0, [ii_v 0, .ref E.2.2, ii_v 0])) := by rw [f_w16_15 _ (by omega) (by omega) (by omega)]; exact k_q3
  replace k_q4 : w16_15 q4 = some (.inr (7, [ii_v 0, ii_v 0, ii_v 0, ii_v 0, ii_v 0, ii_v 0, ii_v 0, ii_v 0, ii_v 0, ii_v 0, ii_v (-1), ii_v 0, ii_v 0])) := by rw [f_w16_15 _ (by omega) (by omega) (by omega)]; exact k_q4
  replace k_q5 : w16_15 q5 = some (.inr (5, [.ref q6, .ref q7, .ref q8, .ref q9, ii_v 0])) := by rw [f_w16_15 _ (by omega) (by omega) (by omega)]; exact k_q5
  replace k_q6 : w16_15 q6 = some (aw_ia E 60) := by rw [f_w16_15 _ (by omega) (by omega) (by omega)]; exact k_q6
  replace k_q7 : w16_15 q7 = some (aw_ia E 60) := by rw [f_w16_15 _ (by omega) (by omega) (by omega)]; exact k_q7
  replace k_q8 : w16_15 q8 = some (aw_ia E 60) := by rw [f_w16_15 _ (by omega) (by omega) (by omega)]; exact k_q8
  replace k_q9 : w16_15 q9 = some (aw_ia E 60) := by rw [f_w16_15 _ (by omega) (by omega) (by omega)]; exact k_q9
  replace k_q10 : w16_15 q10 = some (.inr (4, [.ref q2, .ref q11])) := by rw [f_w16_15 _ (by omega) (by omega) (by omega)]; exact k_q10
  replace k_q11 : w16_15 q11 = some (aw_ia E 8) := by rw [f_w16_15 _ (by omega) (by omega) (by omega)]; exact k_q11
  replace k_q12 : w16_15 q12 = some (.inr (9, [.ref q2, .ref q13, ii_v 0, ii_v 0, ii_v 0, ii_v 0, ii_v 0])) := by rw [f_w16_15 _ (by omega) (by omega) (by omega)]; exact k_q12
  replace k_q13 : w16_15 q13 = some (aw_ia E 8) := by rw [f_w16_15 _ (by omega) (by omega) (by omega)]; exact k_q13
  replace k_q14 := n_w16_15_q14
  refine w_vd ?_
  refine w_putF (ci := 10) (i := 4) C iw_X9 rfl (by decide) rfl tyX9 tyX9_ok nmX9 rfl hnm rfl fl_X9_47 k_a (Nat.le_of_ble_eq_true rfl) rfl rfl dX9_init_77 ?_
  obtain ⟨w17_16, e_w17_16⟩ : ∃ x : Nat → Option va_E, x = aw_up w16_15 a (.inr (10, [.ref q1, .ref q2, .ref q5, .ref q10, .null, .null, ii_v 0, ii_v 0, ii_v 0].set 4 (.ref q14))) := ⟨_, rfl⟩
  rw [← e_w17_16]
  replace k_q1 : w17_16 q1 = some (.inr (0, [ii_v 0, .ref E.2.2, ii_v 0])) := by rw [e_w17_16, aw_up_o _ (by omega)]; exact k_q1
  replace k_q2 : w17_16 q2 = some (.inr (1, [.ref q3, .ref q4])) := by rw [e_w17_16, aw_up_o _ (by omega)]; exact k_q2
  replace k_q3 : w17_16 q3 = some (.inr (0, [ii_v 0, .ref E.2.2, ii_v 0])) := by rw [e_w17_16, aw_up_o _ (by omega)]; exact k_q3
  replace k_q4 : w17_16 q4 = some (.inr (7, [ii_v 0, ii_v 0, ii_v 0, ii_v 0, ii_v 0, ii_v 0, ii_v 0, ii_v 0, ii_v 0, ii_v 0, ii_v (-1), ii_v 0, ii_v 0])) := by rw [e_w17_16, aw_up_o _ (by omega)]; exact k_q4
  replace k_q5 : w17_16 q5 = some (.inr (5, [.ref q6, .ref q7, .ref q8, .ref q9, ii_v 0])) := by rw [e_w17_16, aw_up_o _ (by omega)]; exact k_q5
  replace k_q6 : w17_16 q6 = some (aw_ia E 60) := by rw [e_w17_16, aw_up_o _ (by omega)]; exact k_q6
  replace k_q7 : w17_16 q7 = some (aw_ia E 60) := by rw [e_w17_16, aw_up_o _ (by omega)]; exact k_q7
  replace k_q8 : w17_16 q8 = some (aw_ia E 60) := by rw [e_w17_16, aw_up_o _ (by omega)]; exact k_q8
  replace k_q9 : w17_16 q9 = some (aw_ia E 60) := by rw [e_w17_16, aw_up_o _ (by omega)]; exact k_q9
  replace k_q10 : w17_16 q10 = some (.inr (4, [.ref q2, .ref q11])) := by rw [e_w17_16, aw_up_o _ (by omega)]; exact k_q10
  replace k_q11 : w17_16 q11 = some (aw_ia E 8) := by rw [e_w17_16, aw_up_o _ (by omega)]; exact k_q11
  replace k_q12 : w17_16 q12 = some (.inr (9, [.ref q2, .ref q13, ii_v 0, ii_v 0, ii_v 0, ii_v 0, ii_v 0])) := by rw [e_w17_16, aw_up_o _ (by omega)]; exact k_q12
  replace k_q13 : w17_16 q13 = some (aw_ia E 8) := by rw [e_w17_16, aw_up_o _ (by omega)]; exact k_q13
  replace k_q14 : w17_16 q14 = some (.inr (3, [.ref q10, .ref q12, .ref q15, ii_v 0, ii_v 0, ii_v 0, ii_v 0, ii_v 0])) := by rw [e_w17_16, aw_up_o _ (by omega)]; exact k_q14
  replace k_q15 : w17_16 q15 = some (.inr (8, [.ref q16, ii_v 0])) := by rw [e_w17_16, aw_up_o _ (by omega)]; exact k_q15
  replace k_q16 : w17_16 q16 = some (aw_ia E 8) := by rw [e_w17_16, aw_up_o _ (by omega)]; exact k_q16
  replace k_a : w17_16 a = some (.inr (10, [.ref q1, .ref q2, .ref q5, .ref q10, .ref q14, .null, ii_v 0, ii_v 0, ii_v 0])) := by rw [e_w17_16]; exact aw_up_s _ _ _
  refine w_aload_n C dX9_init_80 rfl ?_
  refine w_new (ci := 6) (fs := [.null, .null, .null, .null, ii_v 0]) C iw_X5 rfl tyX5 tyX5_ok cl_X9_51 it_X5 in_X5 (fun j hj => by rcases (show j = 0 ∨ j = 1 ∨ j = 2 ∨ j = 3 ∨ j = 4 by omega) with rfl | rfl | rfl | rfl | rfl <;> rfl) (by omega) dX9_init_81 ?_
  intro q17 t_q17
  have l_q16_q17 : q16 < q17 := t_q17 _ _ k_q16
  obtain ⟨w18_17, e_w18_17⟩ : ∃ x : Nat → Option va_E, x = aw_up w17_16 q17 (.inr (6, [.null, .null, .null, .null, ii_v 0])) := ⟨_, rfl⟩
  rw [← e_w18_17]
  replace k_a : w18_17 a = some (.inr (10, [.ref q1, .ref q2, .ref q5, .ref q10, .ref q14, .null, ii_v 0, ii_v 0, ii_v 0])) := by rw [e_w18_17, aw_up_o _ (by omega)]; exact k_a
  replace k_q1 : w18_17 q1 = some (.inr (0, [ii_v 0, .ref E.2.2, ii_v 0])) := by rw [e_w18_17, aw_up_o _ (by omega)]; exact k_q1
  replace k_q2 : w18_17 q2 = some (.inr (1, [.ref q3, .ref q4])) := by rw [e_w18_17, aw_up_o _ (by omega)]; exact k_q2
  replace k_q3 : w18_17 q3 = some (.inr (0, [ii_v 0, .ref E.2.2, ii_v 0])) := by rw [e_w18_17, aw_up_o _ (by omega)]; exact k_q3
  replace k_q4 : w18_17 q4 = some (.inr (7, [ii_v 0, ii_v 0, ii_v 0, ii_v 0, ii_v 0, ii_v 0, ii_v 0, ii_v 0, ii_v 0, ii_v 0, ii_v (-1), ii_v 0, ii_v 0])) := by rw [e_w18_17, aw_up_o _ (by omega)]; exact k_q4
  replace k_q5 : w18_17 q5 = some (.inr (5, [.ref q6, .ref q7, .ref q8, .ref q9, ii_v 0])) := by rw [e_w18_17, aw_up_o _ (by omega)]; exact k_q5
  replace k_q6 : w18_17 q6 = some (aw_ia E 60) := by rw [e_w18_17, aw_up_o _ (by omega)]; exact k_q6
  replace k_q7 : w18_17 q7 = some (aw_ia E 60) := by rw [e_w18_17, aw_up_o _ (by omega)]; exact k_q7
  replace k_q8 : w18_17 q8 = some (aw_ia E 60) := by rw [e_w18_17, aw_up_o _ (by omega)]; exact k_q8
  replace k_q9 : w18_17 q9 = some (aw_ia E 60) := by rw [e_w18_17, aw_up_o _ (by omega)]; exact k_q9
  replace k_q10 : w18_17 q10 = some (.inr (4, [.ref q2, .ref q11])) := by rw [e_w18_17, aw_up_o _ (by omega)]; exact k_q10
  replace k_q11 : w18_17 q11 = some (aw_ia E 8) := by rw [e_w18_17, aw_up_o _ (by omega)]; exact k_q11
  replace k_q12 : w18_17 q12 = some (.inr (9, [.ref q2, .ref q13, ii_v 0, ii_v 0, ii_v 0, ii_v 0, ii_v 0])) := by rw [e_w18_17, aw_up_o _ (by omega)]; exact k_q12
  replace k_q13 : w18_17 q13 = some (aw_ia E 8) := by rw [e_w18_17, aw_up_o _ (by omega)]; exact k_q13
  replace k_q14 : w18_17 q14 = some (.inr (3, [.ref q10, .ref q12, .ref q15, ii_v 0, ii_v 0, ii_v 0, ii_v 0, ii_v 0])) := by rw [e_w18_17, aw_up_o _ (by omega)]; exact k_q14
  replace k_q15 : w18_17 q15 = some (.inr (8, [.ref q16, ii_v 0])) := by rw [e_w18_17, aw_up_o _ (by omega)]; exact k_q15
  replace k_q16 : w18_17 q16 = some (aw_ia E 8) := by rw [e_w18_17, aw_up_o _ (by omega)]; exact k_q16
  have k_q17 : w18_17 q17 = some (.inr (6, [.null, .null, .null, .null, ii_v 0])) := by rw [e_w18_17]; exact aw_up_s _ _ _
  refine w_dup C dX9_init_84 rfl ?_
  refine w_aload_n C dX9_init_85 rfl ?_
  refine w_get (ci := 10) (i := 3) (v := .ref q10) C iw_X9 rfl (by decide) (Or.inl rfl) fl_X9_35 k_a rfl dX9_init_86 ?_
  refine w_aload_n C dX9_init_89 rfl ?_
  refine w_callIN (b := q17) (As := [.ref q10, .ref q12]) C (i_orders hl w18_17 q17 q10 q12 k_q17) co_X5_init in_X5 mn_X9_53 im_X5_init rfl ar_X5_init ⟨by decide, by decide, by omega, by omega⟩ rfl (Nat.le_of_ble_eq_true rfl) dX9_init_90 ?_
  intro v_w19_18 w19_18 z_w19_18
  obtain ⟨rfl, q18, q19, q20, q21, t_q18, l_q18_q19, l_q19_q20, l_q20_q21, k_q18, k_q19, k_q20, k_q21, n_w19_18_q17, f_w19_18⟩ := z_w19_18
  have l_q17_q18 : q17 < q18 := t_q18 _ _ k_q17
  replace k_a : w19_18 a = some (.inr (10, [.ref q1, .ref q2, .ref q5, .ref q10, .ref q14, .null, ii_v 0, ii_v 0, ii_v 0])) := by rw [f_w19_18 _ (by omega) (by omega) (by omega) (by omega) (by omega)]; exact k_a
  replace k_q1 : w19_18 q1 = some (.inr (0, [ii_v 0, .ref E.2.2, ii_v 0])) := by rw [f_w19_18 _ (by omega) (by omega) (by omega) (by omega) (by omega)]; exact k_q1
  replace k_q2 : w19_18 q2 = some (.inr (1, [.ref q3, .ref q4])) := by rw [f_w19_18 _ (by omega) (by omega) (by omega) (by omega) (by omega)]; exact k_q2
  replace k_q3 : w19_18 q3 = some (.inr (0, [ii_v 0, .ref E.2.2, ii_v 0])) := by rw [f_w19_18 _ (by omega) (by omega) (by omega) (by omega) (by omega)]; exact k_q3
  replace k_q4 : w19_18 q4 = some (.inr (7, [ii_v 0, ii_v 0, ii_v 0, ii_v 0, ii_v 0, ii_v 0, ii_v 0, ii_v 0, ii_v 0, ii_v 0, ii_v (-1), ii_v 0, ii_v 0])) := by rw [f_w19_18 _ (by omega) (by omega) (by omega) (by omega) (by omega)]; exact k_q4
  replace k_q5 : w19_18 q5 = some (.inr (5, [.ref q6, .ref q7, .ref q8, .ref q9, ii_v 0])) := by rw [f_w19_18 _ (by omega) (by omega) (by omega) (by omega) (by omega)]; exact k_q5
  replace k_q6 : w19_18 q6 = some (aw_ia E 60) := by rw [f_w19_18 _ (by omega) (by omega) (by omega) (by omega) (by omega)]; exact k_q6
  replace k_q7 : w19_18 q7 = some (aw_ia E 60) := by rw [f_w19_18 _ (by omega) (by omega) (by omega) (by omega) (by omega)]; exact k_q7
  replace k_q8 : w19_18 q8 = some (aw_ia E 60) := by rw [f_w19_18 _ (by omega) (by omega) (by omega) (by omega) (by omega)]; exact k_q8
  replace k_q9 : w19_18 q9 = some (aw_ia E 60) := by rw [f_w19_18 _ (by omega) (by omega) (by omega) (by omega) (by omega)]; exact k_q9
  replace k_q10 : w19_18 q10 = some (.inr (4, [.ref q2, .ref q11])) := by rw [f_w19_18 _ (by omega) (by omega) (by omega) (by omega) (by omega)]; exact k_q10
  replace k_q11 : w19_18 q11 = some (aw_ia E 8) := by rw [f_w19_18 _ (by omega) (by omega) (by omega) (by omega) (by omega)]; exact k_q11
  replace k_q12 : w19_18 q12 = some (.inr (9, [.ref q2, .ref q13, ii_v 0, ii_v 0, ii_v 0, ii_v 0, ii_v 0])) := by rw [f_w19_18 _ (by omega) (by omega) (by omega) (by omega) (by omega)]; exact k_q12
  replace k_q13 : w19_18 q13 = some (aw_ia E 8) := by rw [f_w19_18 _ (by omega) (by omega) (by omega) (by omega) (by omega)]; exact k_q13
  replace k_q14 : w19_18 q14 = some (.inr (3, [.ref q10, .ref q12, .ref q15, ii_v 0, ii_v 0, ii_v 0, ii_v 0, ii_v 0])) := by rw [f_w19_18 _ (by omega) (by omega) (by omega) (by omega) (by omega)]; exact k_q14
  replace k_q15 : w19_18 q15 = some (.inr (8, [.ref q16, ii_v 0])) := by rw [f_w19_18 _ (by omega) (by omega) (by omega) (by omega) (by omega)]; exact k_q15
  replace k_q16 : w19_18 q16 = some (aw_ia E 8) := by rw [f_w19_18 _ (by omega) (by omega) (by omega) (by omega) (by omega)]; exact k_q16
  replace k_q17 := n_w19_18_q17
  refine w_vd ?_
  refine w_putF (ci := 10) (i := 5) C iw_X9 rfl (by decide) rfl tyX9 tyX9_ok nmX9 rfl hnm rfl fl_X9_54 k_a (Nat.le_of_ble_eq_true rfl) rfl rfl dX9_init_93 ?_
  obtain ⟨w20_19, e_w20_19⟩ : ∃ x : Nat → Option va_E, x = aw_up w19_18 a (.inr (10, [.ref q1, .ref q2, .ref q5, .ref q10, .ref q14, .null, ii_v 0, ii_v 0, ii_v 0].set 5 (.ref q17))) := ⟨_, rfl⟩
  rw [← e_w20_19]
  replace k_q1 : w20_19 q1 = some (.inr (0, [ii_v 0, .ref E.2.2, ii_v 0])) := by rw [e_w20_19, aw_up_o _ (by omega)]; exact k_q1
  replace k_q2 : w20_19 q2 = some (.inr (1, [.ref q3, .ref q4])) := by rw [e_w20_19, aw_up_o _ (by omega)]; exact k_q2
  replace k_q3 : w20_19 q3 = some (.inr (0, [ii_v 0, .ref E.2.2, ii_v 0])) := by rw [e_w20_19, aw_up_o _ (by omega)]; exact k_q3
  replace k_q4 : w20_19 q4 = some (.inr (7, [ii_v 0, ii_v 0, ii_v 0, ii_v 0, ii_v 0, ii_v 0, ii_v 0, ii_v 0, ii_v 0, ii_v 0, ii_v (-1), ii_v 0, ii_v 0])) := by rw [e_w20_19, aw_up_o _ (by omega)]; exact k_q4
  replace k_q5 : w20_19 q5 = some (.inr (5, [.ref q6, .ref q7, .ref q8, .ref q9, ii_v 0])) := by rw [e_w20_19, aw_up_o _ (by omega)]; exact k_q5
  replace k_q6 : w20_19 q6 = some (aw_ia E 60) := by rw [e_w20_19, aw_up_o _ (by omega)]; exact k_q6
  replace k_q7 : w20_19 q7 = some (aw_ia E 60) := by rw [e_w20_19, aw_up_o _ (by omega)]; exact k_q7
  replace k_q8 : w20_19 q8 = some (aw_ia E 60) := by rw [e_w20_19, aw_up_o _ (by omega)]; exact k_q8
  replace k_q9 : w20_19 q9 = some (aw_ia E 60) := by rw [e_w20_19, aw_up_o _ (by omega)]; exact k_q9
  replace k_q10 : w20_19 q10 = some (.inr (4, [.ref q2, .ref q11])) := by rw [e_w20_19, aw_up_o _ (by omega)]; exact k_q10
  replace k_q11 : w20_19 q11 = some (aw_ia E 8) := by rw [e_w20_19, aw_up_o _ (by omega)]; exact k_q11
  replace k_q12 : w20_19 q12 = some (.inr (9, [.ref q2, .ref q13, ii_v 0, ii_v 0, ii_v 0, ii_v 0, ii_v 0])) := by rw [e_w20_19, aw_up_o _ (by omega)]; exact k_q12
  replace k_q13 : w20_19 q13 = some (aw_ia E 8) := by rw [e_w20_19, aw_up_o _ (by omega)]; exact k_q13
  replace k_q14 : w20_19 q14 = some (.inr (3, [.ref q10, .ref q12, .ref q15, ii_v 0, ii_v 0, ii_v 0, ii_v 0, ii_v 0])) := by rw [e_w20_19, aw_up_o _ (by omega)]; exact k_q14
  replace k_q15 : w20_19 q15 = some (.inr (8, [.ref q16, ii_v 0])) := by rw [e_w20_19, aw_up_o _ (by omega)]; exact k_q15
  replace k_q16 : w20_19 q16 = some (aw_ia E 8) := by rw [e_w20_19, aw_up_o _ (by omega)]; exact k_q16
  replace k_q17 : w20_19 q17 = some (.inr (6, [.ref q10, .ref q12, .ref q18, .ref q20, ii_v 0])) := by rw [e_w20_19, aw_up_o _ (by omega)]; exact k_q17
  replace k_q18 : w20_19 q18 = some (.inr (8, [.ref q19, ii_v 0])) := by rw [e_w20_19, aw_up_o _ (by omega)]; exact k_q18
  replace k_q19 : w20_19 q19 = some (aw_ia E 8) := by rw [e_w20_19, aw_up_o _ (by omega)]; exact k_q19
  replace k_q20 : w20_19 q20 = some (.inr (8, [.ref q21, ii_v 0])) := by rw [e_w20_19, aw_up_o _ (by omega)]; exact k_q20
  replace k_q21 : w20_19 q21 = some (aw_ia E 8) := by rw [e_w20_19, aw_up_o _ (by omega)]; exact k_q21
  replace k_a : w20_19 a = some (.inr (10, [.ref q1, .ref q2, .ref q5, .ref q10, .ref q14, .ref q17, ii_v 0, ii_v 0, ii_v 0])) := by rw [e_w20_19]; exact aw_up_s _ _ _
  refine w_aload_n C dX9_init_96 rfl ?_
  refine w_iconst C dX9_init_97 ?_
  refine w_put (ci := 10) (i := 6) C iw_X9 rfl (by decide) (Or.inl rfl) tyX9 tyX9_ok nmX9 rfl rfl fl_X9_58 k_a (Nat.le_of_ble_eq_true rfl) rfl rfl dX9_init_98 ?_
  obtain ⟨w21_20, e_w21_20⟩ : ∃ x : Nat → Option va_E, x = aw_up w20_19 a (.inr (10, [.ref q1, .ref q2, .ref q5, .ref q10, .ref q14, .ref q17, ii_v 0, ii_v 0, ii_v 0].set 6 (ii_v 0))) := ⟨_, rfl⟩
  rw [← e_w21_20]
  replace k_q1 : w21_20 q1 = some (.inr (0, [ii_v 0, .ref E.2.2, ii_v 0])) := by rw [e_w21_20, aw_up_o _ (by omega)]; exact k_q1
  replace k_q2 : w21_20 q2 = some (.inr (1, [.ref q3, .ref q4])) := by rw [e_w21_20, aw_up_o _ (by omega)]; exact k_q2
  replace k_q3 : w21_20 q3 = some (.inr (0, [ii_v 0, .ref E.2.2, ii_v 0])) := by rw [e_w21_20, aw_up_o _ (by omega)]; exact k_q3
  replace k_q4 : w21_20 q4 = some (.inr (7, [ii_v 0, ii_v 0, ii_v 0, ii_v 0, ii_v 0, ii_v 0, ii_v 0, ii_v 0, ii_v 0, ii_v 0, ii_v (-1), ii_v 0, ii_v 0])) := by rw [e_w21_20, aw_up_o _ (by omega)]; exact k_q4
  replace k_q5 : w21_20 q5 = some (.inr (5, [.ref q6, .ref q7, .ref q8, .ref q9, ii_v 0])) := by rw [e_w21_20, aw_up_o _ (by omega)]; exact k_q5
  replace k_q6 : w21_20 q6 = some (aw_ia E 60) := by rw [e_w21_20, aw_up_o _ (by omega)]; exact k_q6
  replace k_q7 : w21_20 q7 = some (aw_ia E 60) := by rw [e_w21_20, aw_up_o _ (by omega)]; exact k_q7
  replace k_q8 : w21_20 q8 = some (aw_ia E 60) := by rw [e_w21_20, aw_up_o _ (by omega)]; exact k_q8
  replace k_q9 : w21_20 q9 = some (aw_ia E 60) := by rw [e_w21_20, aw_up_o _ (by omega)]; exact k_q9
  replace k_q10 : w21_20 q10 = some (.inr (4, [.ref q2, .ref q11])) := by rw [e_w21_20, aw_up_o _ (by omega)]; exact k_q10
  replace k_q11 : w21_20 q11 = some (aw_ia E 8) := by rw [e_w21_20, aw_up_o _ (by omega)]; exact k_q11
  replace k_q12 : w21_20 q12 = some (.inr (9, [.ref q2, .ref q13, ii_v 0, ii_v 0, ii_v 0, ii_v 0, ii_v 0])) := by rw [e_w21_20, aw_up_o _ (by omega)]; exact k_q12
  replace k_q13 : w21_20 q13 = some (aw_ia E 8) := by rw [e_w21_20, aw_up_o _ (by omega)]; exact k_q13
  replace k_q14 : w21_20 q14 = some (.inr (3, [.ref q10, .ref q12, .ref q15, ii_v 0, ii_v 0, ii_v 0, ii_v 0, ii_v 0])) := by rw [e_w21_20, aw_up_o _ (by omega)]; exact k_q14
  replace k_q15 : w21_20 q15 = some (.inr (8, [.ref q16, ii_v 0])) := by rw [e_w21_20, aw_up_o _ (by omega)]; exact k_q15
  replace k_q16 : w21_20 q16 = some (aw_ia E 8) := by rw [e_w21_20, aw_up_o _ (by omega)]; exact k_q16
  replace k_q17 : w21_20 q17 = some (.inr (6, [.ref q10, .ref q12, .ref q18, .ref q20, ii_v 0])) := by rw [e_w21_20, aw_up_o _ (by omega)]; exact k_q17
  replace k_q18 : w21_20 q18 = some (.inr (8, [.ref q19, ii_v 0])) := by rw [e_w21_20, aw_up_o _ (by omega)]; exact k_q18
  replace k_q19 : w21_20 q19 = some (aw_ia E 8) := by rw [e_w21_20, aw_up_o _ (by omega)]; exact k_q19
  replace k_q20 : w21_20 q20 = some (.inr (8, [.ref q21, ii_v 0])) := by rw [e_w21_20, aw_up_o _ (by omega)]; exact k_q20
  replace k_q21 : w21_20 q21 = some (aw_ia E 8) := by rw [e_w21_20, aw_up_o _ (by omega)]; exact k_q21
  replace k_a : w21_20 a = some (.inr (10, [.ref q1, .ref q2, .ref q5, .ref q10, .ref q14, .ref q17, ii_v 0, ii_v 0, ii_v 0])) := by rw [e_w21_20]; exact aw_up_s _ _ _
  refine w_aload_n C dX9_init_101 rfl ?_
  refine w_bipush C dX9_init_102 (by decide) ?_
  refine w_put (ci := 10) (i := 7) C iw_X9 rfl (by decide) (Or.inl rfl) tyX9 tyX9_ok nmX9 rfl rfl fl_X9_62 k_a (Nat.le_of_ble_eq_true rfl) rfl rfl dX9_init_104 ?_
  obtain ⟨w22_21, e_w22_21⟩ : ∃ x : Nat → Option va_E, x = aw_up w21_20 a (.inr (10, [.ref q1, .ref q2, .ref q5, .ref q10, .ref q14, .ref q17, ii_v 0, ii_v 0, ii_v 0].set 7 (ii_v 50))) := ⟨_, rfl⟩
  rw [← e_w22_21]
  replace k_q1 : w22_21 q1 = some (.inr (0, [ii_v 0, .ref E.2.2, ii_v 0])) := by rw [e_w22_21, aw_up_o _ (by omega)]; exact k_q1
  replace k_q2 : w22_21 q2 = some (.inr (1, [.ref q3, .ref q4])) := by rw [e_w22_21, aw_up_o _ (by omega)]; exact k_q2
  replace k_q3 : w22_21 q3 = some (.inr (0, [ii_v 0, .ref E.2.2, ii_v 0])) := by rw [e_w22_21, aw_up_o _ (by omega)]; exact k_q3
  replace k_q4 : w22_21 q4 = some (.inr (7, [ii_v 0, ii_v 0, ii_v 0, ii_v 0, ii_v 0, ii_v 0, ii_v 0, ii_v 0, ii_v 0, ii_v 0, ii_v (-1), ii_v 0, ii_v 0])) := by rw [e_w22_21, aw_up_o _ (by omega)]; exact k_q4
  replace k_q5 : w22_21 q5 = some (.inr (5, [.ref q6, .ref q7, .ref q8, .ref q9, ii_v 0])) := by rw [e_w22_21, aw_up_o _ (by omega)]; exact k_q5
  replace k_q6 : w22_21 q6 = some (aw_ia E 60) := by rw [e_w22_21, aw_up_o _ (by omega)]; exact k_q6
  replace k_q7 : w22_21 q7 = some (aw_ia E 60) := by rw [e_w22_21, aw_up_o _ (by omega)]; exact k_q7
  replace k_q8 : w22_21 q8 = some (aw_ia E 60) := by rw [e_w22_21, aw_up_o _ (by omega)]; exact k_q8
  replace k_q9 : w22_21 q9 = some (aw_ia E 60) := by rw [e_w22_21, aw_up_o _ (by omega)]; exact k_q9
  replace k_q10 : w22_21 q10 = some (.inr (4, [.ref q2, .ref q11])) := by rw [e_w22_21, aw_up_o _ (by omega)]; exact k_q10
  replace k_q11 : w22_21 q11 = some (aw_ia E 8) := by rw [e_w22_21, aw_up_o _ (by omega)]; exact k_q11
  replace k_q12 : w22_21 q12 = some (.inr (9, [.ref q2, .ref q13, ii_v 0, ii_v 0, ii_v 0, ii_v 0, ii_v 0])) := by rw [e_w22_21, aw_up_o _ (by omega)]; exact k_q12
  replace k_q13 : w22_21 q13 = some (aw_ia E 8) := by rw [e_w22_21, aw_up_o _ (by omega)]; exact k_q13
  replace k_q14 : w22_21 q14 = some (.inr (3, [.ref q10, .ref q12, .ref q15, ii_v 0, ii_v 0, ii_v 0, ii_v 0, ii_v 0])) := by rw [e_w22_21, aw_up_o _ (by omega)]; exact k_q14
  replace k_q15 : w22_21 q15 = some (.inr (8, [.ref q16, ii_v 0])) := by rw [e_w22_21, aw_up_o _ (by omega)]; exact k_q15
  replace k_q16 : w22_21 q16 = some (aw_ia E 8) := by rw [e_w22_21, aw_up_o _ (by omega)]; exact k_q16
  replace k_q17 : w22_21 q17 = some (.inr (6, [.ref q10, .ref q12, .ref q18, .ref q20, ii_v 0])) := by rw [e_w22_21, aw_up_o _ (by omega)]; exact k_q17
  replace k_q18 : w22_21 q18 = some (.inr (8, [.ref q19, ii_v 0])) := by rw [e_w22_21, aw_up_o _ (by omega)]; exact k_q18
  replace k_q19 : w22_21 q19 = some (aw_ia E 8) := by rw [e_w22_21, aw_up_o _ (by omega)]; exact k_q19
  replace k_q20 : w22_21 q20 = some (.inr (8, [.ref q21, ii_v 0])) := by rw [e_w22_21, aw_up_o _ (by omega)]; exact k_q20
  replace k_q21 : w22_21 q21 = some (aw_ia E 8) := by rw [e_w22_21, aw_up_o _ (by omega)]; exact k_q21
  replace k_a : w22_21 a = some (.inr (10, [.ref q1, .ref q2, .ref q5, .ref q10, .ref q14, .ref q17, ii_v 0, ii_v 50, ii_v 0])) := by rw [e_w22_21]; exact aw_up_s _ _ _
  refine w_aload_n C dX9_init_107 rfl ?_
  refine w_bipush C dX9_init_108 (by decide) ?_
  refine w_put (ci := 10) (i := 8) C iw_X9 rfl (by decide) (Or.inl rfl) tyX9 tyX9_ok nmX9 rfl rfl fl_X9_65 k_a (Nat.le_of_ble_eq_true rfl) rfl rfl dX9_init_110 ?_
  obtain ⟨w23_22, e_w23_22⟩ : ∃ x : Nat → Option va_E, x = aw_up w22_21 a (.inr (10, [.ref q1, .ref q2, .ref q5, .ref q10, .ref q14, .ref q17, ii_v 0, ii_v 50, ii_v 0].set 8 (ii_v 15))) := ⟨_, rfl⟩
  rw [← e_w23_22]
  replace k_q1 : w23_22 q1 = some (.inr (0, [ii_v 0, .ref E.2.2, ii_v 0])) := by rw [e_w23_22, aw_up_o _ (by omega)]; exact k_q1
  replace k_q2 : w23_22 q2 = some (.inr (1, [.ref q3, .ref q4])) := by rw [e_w23_22, aw_up_o _ (by omega)]; exact k_q2
  replace k_q3 : w23_22 q3 = some (.inr (0, [ii_v 0, .ref E.2.2, ii_v 0])) := by rw [e_w23_22, aw_up_o _ (by omega)]; exact k_q3
  replace k_q4 : w23_22 q4 = some (.inr (7, [ii_v 0, ii_v 0, ii_v 0, ii_v 0, ii_v 0, ii_v 0, ii_v 0, ii_v 0, ii_v 0, ii_v 0, ii_v (-1), ii_v 0, ii_v 0])) := by rw [e_w23_22, aw_up_o _ (by omega)]; exact k_q4
  replace k_q5 : w23_22 q5 = some (.inr (5, [.ref q6, .ref q7, .ref q8, .ref q9, ii_v 0])) := by rw [e_w23_22, aw_up_o _ (by omega)]; exact k_q5
  replace k_q6 : w23_22 q6 = some (aw_ia E 60) := by rw [e_w23_22, aw_up_o _ (by omega)]; exact k_q6
  replace k_q7 : w23_22 q7 = some (aw_ia E 60) := by rw [e_w23_22, aw_up_o _ (by omega)]; exact k_q7
  replace k_q8 : w23_22 q8 = some (aw_ia E 60) := by rw [e_w23_22, aw_up_o _ (by omega)]; exact k_q8
  replace k_q9 : w23_22 q9 = some (aw_ia E 60) := by rw [e_w23_22, aw_up_o _ (by omega)]; exact k_q9
  replace k_q10 : w23_22 q10 = some (.inr (4, [.ref q2, .ref q11])) := by rw [e_w23_22, aw_up_o _ (by omega)]; exact k_q10
  replace k_q11 : w23_22 q11 = some (aw_ia E 8) := by rw [e_w23_22, aw_up_o _ (by omega)]; exact k_q11
  replace k_q12 : w23_22 q12 = some (.inr (9, [.ref q2, .ref q13, ii_v 0, ii_v 0, ii_v 0, ii_v 0, ii_v 0])) := by rw [e_w23_22, aw_up_o _ (by omega)]; exact k_q12
  replace k_q13 : w23_22 q13 = some (aw_ia E 8) := by rw [e_w23_22, aw_up_o _ (by omega)]; exact k_q13
  replace k_q14 : w23_22 q14 = some (.inr (3, [.ref q10, .ref q12, .ref q15, ii_v 0, ii_v 0, ii_v 0, ii_v 0, ii_v 0])) := by rw [e_w23_22, aw_up_o _ (by omega)]; exact k_q14
  replace k_q15 : w23_22 q15 = some (.inr (8, [.ref q16, ii_v 0])) := by rw [e_w23_22, aw_up_o _ (by omega)]; exact k_q15
  replace k_q16 : w23_22 q16 = some (aw_ia E 8) := by rw [e_w23_22, aw_up_o _ (by omega)]; exact k_q16
  replace k_q17 : w23_22 q17 = some (.inr (6, [.ref q10, .ref q12, .ref q18, .ref q20, ii_v 0])) := by rw [e_w23_22, aw_up_o _ (by omega)]; exact k_q17
  replace k_q18 : w23_22 q18 = some (.inr (8, [.ref q19, ii_v 0])) := by rw [e_w23_22, aw_up_o _ (by omega)]; exact k_q18
  replace k_q19 : w23_22 q19 = some (aw_ia E 8) := by rw [e_w23_22, aw_up_o _ (by omega)]; exact k_q19
  replace k_q20 : w23_22 q20 = some (.inr (8, [.ref q21, ii_v 0])) := by rw [e_w23_22, aw_up_o _ (by omega)]; exact k_q20
  replace k_q21 : w23_22 q21 = some (aw_ia E 8) := by rw [e_w23_22, aw_up_o _ (by omega)]; exact k_q21
  replace k_a : w23_22 a = some (.inr (10, [.ref q1, .ref q2, .ref q5, .ref q10, .ref q14, .ref q17, ii_v 0, ii_v 50, ii_v 15])) := by rw [e_w23_22]; exact aw_up_s _ _ _
  refine w_vret C ?_ (by omega) (by omega) dX9_init_113
  rw [hPost]
  exact ⟨rfl, q1, q2, q3, q4, q5, q6, q7, q8, q9, q10, q11, q12, q13, q14, q15, q16, q17, q18, q19, q20, q21, t0, (by omega), (by omega), (by omega), (by omega), (by omega), (by omega), (by omega), (by omega), (by omega), (by omega), (by omega), (by omega), (by omega), (by omega), (by omega), (by omega), (by omega), (by omega), (by omega), (by omega), k_q1, k_q2, k_q3, k_q4, k_q5, k_q6, k_q7, k_q8, k_q9, k_q10, k_q11, k_q12, k_q13, k_q14, k_q15, k_q16, k_q17, k_q18, k_q19, k_q20, k_q21, k_a, fun b h_a h_q1 h_q2 h_q3 h_q4 h_q5 h_q6 h_q7 h_q8 h_q9 h_q10 h_q11 h_q12 h_q13 h_q14 h_q15 h_q16 h_q17 h_q18 h_q19 h_q20 h_q21 => by rw [e_w23_22, aw_up_o _ h_a, e_w22_21, aw_up_o _ h_a, e_w21_20, aw_up_o _ h_a, e_w20_19, aw_up_o _ h_a, f_w19_18 b h_q17 h_q18 h_q19 h_q20 h_q21, e_w18_17, aw_up_o _ h_q17, e_w17_16, aw_up_o _ h_a, f_w16_15 b h_q14 h_q15 h_q16, e_w15_14, aw_up_o _ h_q14, f_w14_13 b h_q12 h_q13, e_w13_12, aw_up_o _ h_q12, e_w12_11, aw_up_o _ h_a, f_w11_10 b h_q10 h_q11, e_w10_9, aw_up_o _ h_q10, e_w9_8, aw_up_o _ h_a, f_w8_7 b h_q5 h_q6 h_q7 h_q8 h_q9, e_w7_6, aw_up_o _ h_q5, e_w6_5, aw_up_o _ h_a, f_w5_4 b h_q2 h_q3 h_q4, e_w4_3, aw_up_o _ h_q2, e_w3_2, aw_up_o _ h_a, f_w2_1 b h_q1, e_w1_0, aw_up_o _ h_q1]⟩
set_option maxRecDepth 20000 in
set_option maxHeartbeats 4000000 in
theorem i_model {l : Launch} {E : ab_E} {base : Nat} (hl : l.stackTraces = false) (cw : Nat → Option va_E) (a : Nat)  (k_a : cw a = some (.inr (11, [ii_v 0, .null, .null, .null, .null, .null, .null, .null, .null, .null, .null, .null, .null, .null, .null, .null, .null, .null, .null, .null, .null, .null, .null, .null, .null, .null, .null, .null, .null, ii_v 0, ii_v 0, ii_v 0, ii_v 0, ii_v 0, ii_v 0, .null, .null, ii_v 0, ii_v 0, ii_v 0, ii_v 0, ii_v 0, ii_v 0, .null, .null, ii_v 0, ii_v 0]))) : aw_M l E base yX10_init cX10_init 1 none 2 32 800 [.ref a] cw (fun v c1 => v = none ∧ ∃ q1 q2 q3 q4 q5 q6 q7 q8 q9 q10 q11 q12 q13 q14 q15 q16 q17 q18 q19 q20 q21 q22 q23 q24 q25 q26 q27 q28 q29 q30 q31 q32 : Nat, aw_top cw q1 ∧ q1 < q2 ∧ q2 < q3 ∧ q3 < q4 ∧ q4 < q5 ∧ q5 < q6 ∧ q6 < q7 ∧ q7 < q8 ∧ q8 < q9 ∧ q9 < q10 ∧ q10 < q11 ∧ q11 < q12 ∧ q12 < q13 ∧ q13 < q14 ∧ q14 < q15 ∧ q15 < q16 ∧ q16 < q17 ∧ q17 < q18 ∧ q18 < q19 ∧ q19 < q20 ∧ q20 < q21 ∧ q21 < q22 ∧ q22 < q23 ∧ q23 < q24 ∧ q24 < q25 ∧ q25 < q26 ∧ q26 < q27 ∧ q27 < q28 ∧ q28 < q29 ∧ q29 < q30 ∧ q30 < q31 ∧ q31 < q32 ∧ c1 q1 = some (aw_ia E 4) ∧ c1 q2 = some (aw_ia E 4) ∧ c1 q3 = some (aw_ia E 4) ∧ c1 q4 = some (aw_ia E 4) ∧ c1 q5 = some (aw_ia E 4) ∧ c1 q6 = some (aw_ia E 4) ∧ c1 q7 = some (aw_ia E 4) ∧ c1 q8 = some (aw_ia E 4) ∧ c1 q9 = some (aw_ia E 4) ∧ c1 q10 = some (aw_ia E 4) ∧ c1 q11 = some (aw_ia E 4) ∧ c1 q12 = some (aw_ia E 32) ∧ c1 q13 = some (aw_ia E 31) ∧ c1 q14 = some (aw_ia E 31) ∧ c1 q15 = some (aw_ia E 31) ∧ c1 q16 = some (aw_ia E 31) ∧ c1 q17 = some (aw_ia E 31) ∧ c1 q18 = some (aw_ia E 31) ∧ c1 q19 = some (aw_ia E 31) ∧ c1 q20 = some (aw_ia E 31) ∧ c1 q21 = some (aw_ia E 31) ∧ c1 q22 = some (aw_ia E 31) ∧ c1 q23 = some (aw_ca E 31) ∧ c1 q24 = some (aw_ca E 31) ∧ c1 q25 = some (aw_ia E 60) ∧ c1 q26 = some (aw_ia E 60) ∧ c1 q27 = some (aw_ia E 60) ∧ c1 q28 = some (aw_ia E 60) ∧ c1 q29 = some (aw_ia E 8) ∧ c1 q30 = some (aw_ia E 8) ∧ c1 q31 = some (aw_ia E 8) ∧ c1 q32 = some (aw_ia E 8) ∧ c1 a = some (.inr (11, [ii_v 0, .ref q1, .ref q2, .ref q3, .ref q4, .ref q5, .ref q6, .ref q7, .ref q8, .ref q9, .ref q10, .ref q11, .ref q12, .ref q13, .ref q14, .ref q15, .ref q16, .ref q17, .ref q18, .ref q19, .ref q20, .ref q21, .ref q22, .ref q23, .ref q24, .ref q25, .ref q26, .ref q27, .ref q28, ii_v 0, ii_v 0, ii_v 0, ii_v 0, ii_v 50, ii_v 15, .ref q29, .ref q30, ii_v 0, ii_v 0, ii_v 0, ii_v 0, ii_v 0, ii_v 0, .ref q31, .ref q32, ii_v 0, ii_v 0])) ∧ ∀ b : Nat, b ≠ a → b ≠ q1 → b ≠ q2 → b ≠ q3 → b ≠ q4 → b ≠ q5 → b ≠ q6 → b ≠ q7 → b ≠ q8 → b ≠ q9 → b ≠ q10 → b ≠ q11 → b ≠ q12 → b ≠ q13 → b ≠ q14 → b ≠ q15 → b ≠ q16 → b ≠ q17 → b ≠ q18 → b ≠ q19 → b ≠ q20 → b ≠ q21 → b ≠ q22 → b ≠ q23 → b ≠ q24 → b ≠ q25 → b ≠ q26 → b ≠ q27 → b ≠ q28 → b ≠ q29 → b ≠ q30 → b ≠ q31 → b ≠ q32 → c1 b = cw b) := by
  obtain ⟨Post, hPost⟩ : ∃ P : Option Value → (Nat → Option va_E) → Prop, P = (fun v c1 => v = none ∧ ∃ q1 q2 q3 q4 q5 q6 q7 q8 q9 q10 q11 q12 q13 q14 q15 q16 q17 q18 q19 q20 q21 q22 q23 q24 q25 q26 q27 q28 q29 q30 q31 q32 : Nat, aw_top cw q1 ∧ q1 < q2 ∧ q2 < q3 ∧ q3 < q4 ∧ q4 < q5 ∧ q5 < q6 ∧ q6 < q7 ∧ q7 < q8 ∧ q8 < q9 ∧ q9 < q10 ∧ q10 < q11 ∧ q11 < q12 ∧ q12 < q13 ∧ q13 < q14 ∧ q14 < q15 ∧ q15 < q16 ∧ q16 < q17 ∧ q17 < q18 ∧ q18 < q19 ∧ q19 < q20 ∧ q20 < q21 ∧ q21 < q22 ∧ q22 < q23 ∧ q23 < q24 ∧ q24 < q25 ∧ q25 < q26 ∧ q26 < q27 ∧ q27 < q28 ∧ q28 < q29 ∧ q29 < q30 ∧ q30 < q31 ∧ q31 < q32 ∧ c1 q1 = some (aw_ia E 4) ∧ c1 q2 = some (aw_ia E 4) ∧ c1 q3 = some (aw_ia E 4) ∧ c1 q4 = some (aw_ia E 4) ∧ c1 q5 = some (aw_ia E 4) ∧ c1 q6 = some (aw_ia E 4) ∧ c1 q7 = some (aw_ia E 4) ∧ c1 q8 = some (aw_ia E 4) ∧ c1 q9 = some (aw_ia E 4) ∧ c1 q10 = some (aw_ia E 4) ∧ c1 q11 = some (aw_ia E 4) ∧ c1 q12 = some (aw_ia E 32) ∧ c1 q13 = some (aw_ia E 31) ∧ c1 q14 = some (aw_ia E 31) ∧ c1 q15 = some (aw_ia E 31) ∧ c1 q16 = some (aw_ia E 31) ∧ c1 q17 = some (aw_ia E 31) ∧ c1 q18 = some (aw_ia E 31) ∧ c1 q19 = some (aw_ia E 31) ∧ c1 q20 = some (aw_ia E 31) ∧ c1 q21 = some (aw_ia E 31) ∧ c1 q22 = some (aw_ia E 31) ∧ c1 q23 = some (aw_ca E 31) ∧ c1 q24 = some (aw_ca E 31) ∧ c1 q25 = some (aw_ia E 60) ∧ c1 q26 = some (aw_ia E 60) ∧ c1 q27 = some (aw_ia E 60) ∧ c1 q28 = some (aw_ia E 60) ∧ c1 q29 = some (aw_ia E 8) ∧ c1 q30 = some (aw_ia E 8) ∧ c1 q31 = some (aw_ia E 8) ∧ c1 q32 = some (aw_ia E 8) ∧ c1 a = some (.inr (11, [ii_v 0, .ref q1, .ref q2, .ref q3, .ref q4, .ref q5, .ref q6, .ref q7, .ref q8, .ref q9, .ref q10, .ref q11, .ref q12, .ref q13, .ref q14, .ref q15, .ref q16, .ref q17, .ref q18, .ref q19, .ref q20, .ref q21, .ref q22, .ref q23, .ref q24, .ref q25, .ref q26, .ref q27, .ref q28, ii_v 0, ii_v 0, ii_v 0, ii_v 0, ii_v 50, ii_v 15, .ref q29, .ref q30, ii_v 0, ii_v 0, ii_v 0, ii_v 0, ii_v 0, ii_v 0, .ref q31, .ref q32, ii_v 0, ii_v 0])) ∧ ∀ b : Nat, b ≠ a → b ≠ q1 → b ≠ q2 → b ≠ q3 → b ≠ q4 → b ≠ q5 → b ≠ q6 → b ≠ q7 → b ≠ q8 → b ≠ q9 → b ≠ q10 → b ≠ q11 → b ≠ q12 → b ≠ q13 → b ≠ q14 → b ≠ q15 → b ≠ q16 → b ≠ q17 → b ≠ q18 → b ≠ q19 → b ≠ q20 → b ≠ q21 → b ≠ q22 → b ≠ q23 → b ≠ q24 → b ≠ q25 → b ≠ q26 → b ≠ q27 → b ≠ q28 → b ≠ q29 → b ≠ q30 → b ≠ q31 → b ≠ q32 → c1 b = cw b) := ⟨_, rfl⟩
  rw [← hPost]
  refine aw_of RX10 [(0, .ref a)] hl (by decide) rfl (Nat.le_of_ble_eq_true rfl) rfl ?_
  intro p e s m args below meth c C hnm
  refine w_aload_n C dX10_init_0 rfl ?_
  refine w_oinit C ml_X10_1 dX10_init_1 (by decide) (Nat.le_of_ble_eq_true rfl) ?_
  refine w_aload_n C dX10_init_4 rfl ?_
  refine w_iconst C dX10_init_5 ?_
  refine w_newi (N := 4) C rfl (by decide) (by omega) dX10_init_6 ?_
  intro q1 t_q1
  have l_a_q1 : a < q1 := t_q1 _ _ k_a
  have t0 : aw_top cw q1 := fun b e h => t_q1 b _ (by skip; exact h)
  obtain ⟨w1_0, e_w1_0⟩ : ∃ x : Nat → Option va_E, x = aw_up cw q1 (aw_ia E 4) := ⟨_, rfl⟩
  rw [← e_w1_0]
  replace k_a : w1_0 a = some (.inr (11, [ii_v 0, .null, .null, .null, .null, .null, .null, .null, .null, .null, .null, .null, .null, .null, .null, .null, .null, .null, .null, .null, .null, .null, .null, .null, .null, .null, .null, .null, .null, ii_v 0, ii_v 0, ii_v 0, ii_v 0, ii_v 0, ii_v 0, .null, .null, ii_v 0, ii_v 0, ii_v 0, ii_v 0, ii_v 0, ii_v 0, .null, .null, ii_v 0, ii_v 0])) := by rw [e_w1_0, aw_up_o _ (by omega)]; exact k_a
  have k_q1 : w1_0 q1 = some (aw_ia E 4) := by rw [e_w1_0]; exact aw_up_s _ _ _
  refine w_putF (ci := 11) (i := 1) C iw_X10 rfl (by decide) rfl tyX10 tyX10_ok nmX10 rfl hnm rfl fl_X10_9 k_a (Nat.le_of_ble_eq_true rfl) rfl rfl dX10_init_8 ?_
  obtain ⟨w2_1, e_w2_1⟩ : ∃ x : Nat → Option va_E, x = aw_up w1_0 a (.inr (11, [ii_v 0, .null, .null, .null, .null, .null, .null, .null, .null, .null, .null, .null, .null, .null, .null, .null, .null, .null, .null, .null, .null, .null, .null, .null, .null, .null, .null, .null, .null, ii_v 0, ii_v 0, ii_v 0, ii_v 0, ii_v 0, ii_v 0, .null, .null, ii_v 0, ii_v 0, ii_v 0, ii_v 0, ii_v 0, ii_v 0, .null, .null, ii_v 0, ii_v 0].set 1 (.ref q1))) := ⟨_, rfl⟩
  rw [← e_w2_1]
  replace k_q1 : w2_1 q1 = some (aw_ia E 4) := by rw [e_w2_1, aw_up_o _ (by omega)]; exact k_q1
  replace k_a : w2_1 a = some (.inr (11, [ii_v 0, .ref q1, .null, .null, .null, .null, .null, .null, .null, .null, .null, .null, .null, .null, .null, .null, .null, .null, .null, .null, .null, .null, .null, .null, .null, .null, .null, .null, .null, ii_v 0, ii_v 0, ii_v 0, ii_v 0, ii_v 0, ii_v 0, .null, .null, ii_v 0, ii_v 0, ii_v 0, ii_v 0, ii_v 0, ii_v 0, .null, .null, ii_v 0, ii_v 0])) := by rw [e_w2_1]; exact aw_up_s _ _ _
  refine w_aload_n C dX10_init_11 rfl ?_
  refine w_iconst C dX10_init_12 ?_
  refine w_newi (N := 4) C rfl (by decide) (by omega) dX10_init_13 ?_
  intro q2 t_q2
  have l_q1_q2 : q1 < q2 := t_q2 _ _ k_q1
  obtain ⟨w3_2, e_w3_2⟩ : ∃ x : Nat → Option va_E, x = aw_up w2_1 q2 (aw_ia E 4) := ⟨_, rfl⟩
  rw [← e_w3_2]
  replace k_a : w3_2 a = some (.inr (11, [ii_v 0, .ref q1, .null, .null, .null, .null, .null, .null, .null, .null, .null, .null, .null, .null, .null, .null, .null, .null, .null, .null, .null, .null, .null, .null, .null, .null, .null, .null, .null, ii_v 0, ii_v 0, ii_v 0, ii_v 0, ii_v 0, ii_v 0, .null, .null, ii_v 0, ii_v 0, ii_v 0, ii_v 0, ii_v 0, ii_v 0, .null, .null, ii_v 0, ii_v 0])) := by rw [e_w3_2, aw_up_o _ (by omega)]; exact k_a
  replace k_q1 : w3_2 q1 = some (aw_ia E 4) := by rw [e_w3_2, aw_up_o _ (by omega)]; exact k_q1
  have k_q2 : w3_2 q2 = some (aw_ia E 4) := by rw [e_w3_2]; exact aw_up_s _ _ _
  refine w_putF (ci := 11) (i := 2) C iw_X10 rfl (by decide) rfl tyX10 tyX10_ok nmX10 rfl hnm rfl fl_X10_13 k_a (Nat.le_of_ble_eq_true rfl) rfl rfl dX10_init_15 ?_
  obtain ⟨w4_3, e_w4_3⟩ : ∃ x : Nat → Option va_E, x = aw_up w3_2 a (.inr (11, [ii_v 0, .ref q1, .null, .null, .null, .null, .null, .null, .null, .null, .null, .null, .null, .null, .null, .null, .null, .null, .null, .null, .null, .null, .null, .null, .null, .null, .null, .null, .null, ii_v 0, ii_v 0, ii_v 0, ii_v 0, ii_v 0, ii_v 0, .null, .null, ii_v 0, ii_v 0, ii_v 0, ii_v 0, ii_v 0, ii_v 0, .null, .null, ii_v 0, ii_v 0].set 2 (.ref q2))) := ⟨_, rfl⟩
  rw [← e_w4_3]
  replace k_q1 : w4_3 q1 = some (aw_ia E 4) := by rw [e_w4_3, aw_up_o _ (by omega)]; exact k_q1
  replace k_q2 : w4_3 q2 = some (aw_ia E 4) := by rw [e_w4_3, aw_up_o _ (by omega)]; exact k_q2
  replace k_a : w4_3 a = some (.inr (11, [ii_v 0, .ref q1, .ref q2, .null, .null, .null, .null, .null, .null, .null, .null, .null, .null, .null, .null, .null, .null, .null, .null, .null, .null, .null, .null, .null, .null, .null, .null, .null, .null, ii_v 0, ii_v 0, ii_v 0, ii_v 0, ii_v 0, ii_v 0, .null, .null, ii_v 0, ii_v 0, ii_v 0, ii_v 0, ii_v 0, ii_v 0, .null, .null, ii_v 0, ii_v 0])) := by rw [e_w4_3]; exact aw_up_s _ _ _
  refine w_aload_n C dX10_init_18 rfl ?_
  refine w_iconst C dX10_init_19 ?_
  refine w_newi (N := 4) C rfl (by decide) (by omega) dX10_init_20 ?_
  intro q3 t_q3
  have l_q2_q3 : q2 < q3 := t_q3 _ _ k_q2
  obtain ⟨w5_4, e_w5_4⟩ : ∃ x : Nat → Option va_E, x = aw_up w4_3 q3 (aw_ia E 4) := ⟨_, rfl⟩
  rw [← e_w5_4]
  replace k_a : w5_4 a = some (.inr (11, [ii_v 0, .ref q1, .ref q2, .null, .null, .null, .null, .null, .null, .null, .null, .null, .null, .null, .null, .null, .null, .null, .null, .null, .null, .null, .null, .null, .null, .null, .null, .null, .null, ii_v 0, ii_v 0, ii_v 0, ii_v 0, ii_v 0, ii_v 0, .null, .null, ii_v 0, ii_v 0, ii_v 0, ii_v 0, ii_v 0, ii_v 0, .null, .null, ii_v 0, ii_v 0])) := by rw [e_w5_4, aw_up_o _ (by omega)]; exact k_a
  replace k_q1 : w5_4 q1 = some (aw_ia E 4) := by rw [e_w5_4, aw_up_o _ (by omega)]; exact k_q1
  replace k_q2 : w5_4 q2 = some (aw_ia E 4) := by rw [e_w5_4, aw_up_o _ (by omega)]; exact k_q2
  have k_q3 : w5_4 q3 = some (aw_ia E 4) := by rw [e_w5_4]; exact aw_up_s _ _ _
  refine w_putF (ci := 11) (i := 3) C iw_X10 rfl (by decide) rfl tyX10 tyX10_ok nmX10 rfl hnm rfl fl_X10_16 k_a (Nat.le_of_ble_eq_true rfl) rfl rfl dX10_init_22 ?_
  obtain ⟨w6_5, e_w6_5⟩ : ∃ x : Nat → Option va_E, x = aw_up w5_4 a (.inr (11, [ii_v 0, .ref q1, .ref q2, .null, .null, .null, .null, .null, .null, .null, .null, .null, .null, .null, .null, .null, .null, .null, .null, .null, .null, .null, .null, .null, .null, .null, .null, .null, .null, ii_v 0, ii_v 0, ii_v 0, ii_v 0, ii_v 0, ii_v 0, .null, .null, ii_v 0, ii_v 0, ii_v 0, ii_v 0, ii_v 0, ii_v 0, .null, .null, ii_v 0, ii_v 0].set 3 (.ref q3))) := ⟨_, rfl⟩
  rw [← e_w6_5]
  replace k_q1 : w6_5 q1 = some (aw_ia E 4) := by rw [e_w6_5, aw_up_o _ (by omega)]; exact k_q1
  replace k_q2 : w6_5 q2 = some (aw_ia E 4) := by rw [e_w6_5, aw_up_o _ (by omega)]; exact k_q2
  replace k_q3 : w6_5 q3 = some (aw_ia E 4) := by rw [e_w6_5, aw_up_o _ (by omega)]; exact k_q3
  replace k_a : w6_5 a = some (.inr (11, [ii_v 0, .ref q1, .ref q2, .ref q3, .null, .null, .null, .null, .null, .null, .null, .null, .null, .null, .null, .null, .null, .null, .null, .null, .null, .null, .null, .null, .null, .null, .null, .null, .null, ii_v 0, ii_v 0, ii_v 0, ii_v 0, ii_v 0, ii_v 0, .null, .null, ii_v 0, ii_v 0, ii_v 0, ii_v 0, ii_v 0, ii_v 0, .null, .null, ii_v 0, ii_v 0])) := by rw [e_w6_5]; exact aw_up_s _ _ _
  refine w_aload_n C dX10_init_25 rfl ?_
  refine w_iconst C dX10_init_26 ?_
  refine w_newi (N := 4) C rfl (by decide) (by omega) dX10_init_27 ?_
  intro q4 t_q4
  have l_q3_q4 : q3 < q4 := t_q4 _ _ k_q3
  obtain ⟨w7_6, e_w7_6⟩ : ∃ x : Nat → Option va_E, x = aw_up w6_5 q4 (aw_ia E 4) := ⟨_, rfl⟩
  rw [← e_w7_6]
  replace k_a : w7_6 a = some (.inr (11, [ii_v 0, .ref q1, .ref q2, .ref q3, .null, .null, .null, .null, .null, .null, .null, .null, .null, .null, .null, .null, .null, .null, .null, .null, .null, .null, .null, .null, .null, .null, .null, .null, .null, ii_v 0, ii_v 0, ii_v 0, ii_v 0, ii_v 0, ii_v 0, .null, .null, ii_v 0, ii_v 0, ii_v 0, ii_v 0, ii_v 0, ii_v 0, .null, .null, ii_v 0, ii_v 0])) := by rw [e_w7_6, aw_up_o _ (by omega)]; exact k_a
  replace k_q1 : w7_6 q1 = some (aw_ia E 4) := by rw [e_w7_6, aw_up_o _ (by omega)]; exact k_q1
  replace k_q2 : w7_6 q2 = some (aw_ia E 4) := by rw [e_w7_6, aw_up_o _ (by omega)]; exact k_q2
  replace k_q3 : w7_6 q3 = some (aw_ia E 4) := by rw [e_w7_6, aw_up_o _ (by omega)]; exact k_q3
  have k_q4 : w7_6 q4 = some (aw_ia E 4) := by rw [e_w7_6]; exact aw_up_s _ _ _
  refine w_putF (ci := 11) (i := 4) C iw_X10 rfl (by decide) rfl tyX10 tyX10_ok nmX10 rfl hnm rfl fl_X10_19 k_a (Nat.le_of_ble_eq_true rfl) rfl rfl dX10_init_29 ?_
  obtain ⟨w8_7, e_w8_7⟩ : ∃ x : Nat → Option va_E, x = aw_up w7_6 a (.inr (11, [ii_v 0, .ref q1, .ref q2, .ref q3, .null, .null, .null, .null, .null, .null, .null, .null, .null, .null, .null, .null, .null, .null, .null, .null, .null, .null, .null, .null, .null, .null, .null, .null, .null, ii_v 0, ii_v 0, ii_v 0, ii_v 0, ii_v 0, ii_v 0, .null, .null, ii_v 0, ii_v 0, ii_v 0, ii_v 0, ii_v 0, ii_v 0, .null, .null, ii_v 0, ii_v 0].set 4 (.ref q4))) := ⟨_, rfl⟩
  rw [← e_w8_7]
  replace k_q1 : w8_7 q1 = some (aw_ia E 4) := by rw [e_w8_7, aw_up_o _ (by omega)]; exact k_q1
  replace k_q2 : w8_7 q2 = some (aw_ia E 4) := by rw [e_w8_7, aw_up_o _ (by omega)]; exact k_q2
  replace k_q3 : w8_7 q3 = some (aw_ia E 4) := by rw [e_w8_7, aw_up_o _ (by omega)]; exact k_q3
  replace k_q4 : w8_7 q4 = some (aw_ia E 4) := by rw [e_w8_7, aw_up_o _ (by omega)]; exact k_q4
  replace k_a : w8_7 a = some (.inr (11, [ii_v 0, .ref q1, .ref q2, .ref q3, .ref q4, .null, .null, .null, .null, .null, .null, .null, .null, .null, .null, .null, .null, .null, .null, .null, .null, .null, .null, .null, .null, .null, .null, .null, .null, ii_v 0, ii_v 0, ii_v 0, ii_v 0, ii_v 0, ii_v 0, .null, .null, ii_v 0, ii_v 0, ii_v 0, ii_v 0, ii_v 0, ii_v 0, .null, .null, ii_v 0, ii_v 0])) := by rw [e_w8_7]; exact aw_up_s _ _ _
  refine w_aload_n C dX10_init_32 rfl ?_
  refine w_iconst C dX10_init_33 ?_
  refine w_newi (N := 4) C rfl (by decide) (by omega) dX10_init_34 ?_
  intro q5 t_q5
  have l_q4_q5 : q4 < q5 := t_q5 _ _ k_q4
  obtain ⟨w9_8, e_w9_8⟩ : ∃ x : Nat → Option va_E, x = aw_up w8_7 q5 (aw_ia E 4) := ⟨_, rfl⟩
  rw [← e_w9_8]
  replace k_a : w9_8 a = some (.inr (11, [ii_v 0, .ref q1, .ref q2, .ref q3, .ref q4, .null, .null, .null, .null, .null, .null, .null, .null, .null, .null, .null, .null, .null, .null, .null, .null, .null, .null, .null, .null, .null, .null, .null, .null, ii_v 0, ii_v 0, ii_v 0, ii_v 0, ii_v 0, ii_v 0, .null, .null, ii_v 0, ii_v 0, ii_v 0, ii_v 0, ii_v 0, ii_v 0, .null, .null, ii_v 0, ii_v 0])) := by rw [e_w9_8, aw_up_o _ (by omega)]; exact k_a
  replace k_q1 : w9_8 q1 = some (aw_ia E 4) := by rw [e_w9_8, aw_up_o _ (by omega)]; exact k_q1
  replace k_q2 : w9_8 q2 = some (aw_ia E 4) := by rw [e_w9_8, aw_up_o _ (by omega)]; exact k_q2
  replace k_q3 : w9_8 q3 = some (aw_ia E 4) := by rw [e_w9_8, aw_up_o _ (by omega)]; exact k_q3
  replace k_q4 : w9_8 q4 = some (aw_ia E 4) := by rw [e_w9_8, aw_up_o _ (by omega)]; exact k_q4
  have k_q5 : w9_8 q5 = some (aw_ia E 4) := by rw [e_w9_8]; exact aw_up_s _ _ _
  refine w_putF (ci := 11) (i := 5) C iw_X10 rfl (by decide) rfl tyX10 tyX10_ok nmX10 rfl hnm rfl fl_X10_22 k_a (Nat.le_of_ble_eq_true rfl) rfl rfl dX10_init_36 ?_
  obtain ⟨w10_9, e_w10_9⟩ : ∃ x : Nat → Option va_E, x = aw_up w9_8 a (.inr (11, [ii_v 0, .ref q1, .ref q2, .ref q3, .ref q4, .null, .null, .null, .null, .null, .null, .null, .null, .null, .null, .null, .null, .null, .null, .null, .null, .null, .null, .null, .null, .null, .null, .null, .null, ii_v 0, ii_v 0, ii_v 0, ii_v 0, ii_v 0, ii_v 0, .null, .null, ii_v 0, ii_v 0, ii_v 0, ii_v 0, ii_v 0, ii_v 0, .null, .null, ii_v 0, ii_v 0].set 5 (.ref q5))) := ⟨_, rfl⟩
  rw [← e_w10_9]
  replace k_q1 : w10_9 q1 = some (aw_ia E 4) := by rw [e_w10_9, aw_up_o _ (by omega)]; exact k_q1
  replace k_q2 : w10_9 q2 = some (aw_ia E 4) := by rw [e_w10_9, aw_up_o _ (by omega)]; exact k_q2
  replace k_q3 : w10_9 q3 = some (aw_ia E 4) := by rw [e_w10_9, aw_up_o _ (by omega)]; exact k_q3
  replace k_q4 : w10_9 q4 = some (aw_ia E 4) := by rw [e_w10_9, aw_up_o _ (by omega)]; exact k_q4
  replace k_q5 : w10_9 q5 = some (aw_ia E 4) := by rw [e_w10_9, aw_up_o _ (by omega)]; exact k_q5
  replace k_a : w10_9 a = some (.inr (11, [ii_v 0, .ref q1, .ref q2, .ref q3, .ref q4, .ref q5, .null, .null, .null, .null, .null, .null, .null, .null, .null, .null, .null, .null, .null, .null, .null, .null, .null, .null, .null, .null, .null, .null, .null, ii_v 0, ii_v 0, ii_v 0, ii_v 0, ii_v 0, ii_v 0, .null, .null, ii_v 0, ii_v 0, ii_v 0, ii_v 0, ii_v 0, ii_v 0, .null, .null, ii_v 0, ii_v 0])) := by rw [e_w10_9]; exact aw_up_s _ _ _
  refine w_aload_n C dX10_init_39 rfl ?_
  refine w_iconst C dX10_init_40 ?_
  refine w_newi (N := 4) C rfl (by decide) (by omega) dX10_init_41 ?_
  intro q6 t_q6
  have l_q5_q6 : q5 < q6 := t_q6 _ _ k_q5
  obtain ⟨w11_10, e_w11_10⟩ : ∃ x : Nat → Option va_E, x = aw_up w10_9 q6 (aw_ia E 4) := ⟨_, rfl⟩
  rw [← e_w11_10]
  replace k_a : w11_10 a = some (.inr (11, [ii_v 0, .ref q1, .ref q2, .ref q3, .ref q4, .ref q5, .null, .null, .null, .null, .null, .null, .null, .null, .null, .null, .null, .null, .null, .null, .null, .null, .null, .null, .null, .null, .null, .null, .null, ii_v 0, ii_v 0, ii_v 0, ii_v 0, ii_v 0, ii_v 0, .null, .null, ii_v 0, ii_v 0, ii_v 0, ii_v 0, ii_v 0, ii_v 0, .null, .null, ii_v 0, ii_v 0])) := by rw [e_w11_10, aw_up_o _ (by omega)]; exact k_a
  replace k_q1 : w11_10 q1 = some (aw_ia E 4) := by rw [e_w11_10, aw_up_o _ (by omega)]; exact k_q1
  replace k_q2 : w11_10 q2 = some (aw_ia E 4) := by rw [e_w11_10, aw_up_o _ (by omega)]; exact k_q2
  replace k_q3 : w11_10 q3 = some (aw_ia E 4) := by rw [e_w11_10, aw_up_o _ (by omega)]; exact k_q3
  replace k_q4 : w11_10 q4 = some (aw_ia E 4) := by rw [e_w11_10, aw_up_o _ (by omega)]; exact k_q4
  replace k_q5 : w11_10 q5 = some (aw_ia E 4) := by rw [e_w11_10, aw_up_o _ (by omega)]; exact k_q5
  have k_q6 : w11_10 q6 = some (aw_ia E 4) := by rw [e_w11_10]; exact aw_up_s _ _ _
  refine w_putF (ci := 11) (i := 6) C iw_X10 rfl (by decide) rfl tyX10 tyX10_ok nmX10 rfl hnm rfl fl_X10_25 k_a (Nat.le_of_ble_eq_true rfl) rfl rfl dX10_init_43 ?_
  obtain ⟨w12_11, e_w12_11⟩ : ∃ x : Nat → Option va_E, x = aw_up w11_10 a (.inr (11, [ii_v 0, .ref q1, .ref q2, .ref q3, .ref q4, .ref q5, .null, .null, .null, .null, .null, .null, .null, .null, .null, .null, .null, .null, .null, .null, .null, .null, .null, .null, .null, .null, .null, .null, .null, ii_v 0, ii_v 0, ii_v 0, ii_v 0, ii_v 0, ii_v 0, .null, .null, ii_v 0, ii_v 0, ii_v 0, ii_v 0, ii_v 0, ii_v 0, .null, .null, ii_v 0, ii_v 0].set 6 (.ref q6))) := ⟨_, rfl⟩
  rw [← e_w12_11]
  replace k_q1 : w12_11 q1 = some (aw_ia E 4) := by rw [e_w12_11, aw_up_o _ (by omega)]; exact k_q1
  replace k_q2 : w12_11 q2 = some (aw_ia E 4) := by rw [e_w12_11, aw_up_o _ (by omega)]; exact k_q2
  replace k_q3 : w12_11 q3 = some (aw_ia E 4) := by rw [e_w12_11, aw_up_o _ (by omega)]; exact k_q3
  replace k_q4 : w12_11 q4 = some (aw_ia E 4) := by rw [e_w12_11, aw_up_o _ (by omega)]; exact k_q4
  replace k_q5 : w12_11 q5 = some (aw_ia E 4) := by rw [e_w12_11, aw_up_o _ (by omega)]; exact k_q5
  replace k_q6 : w12_11 q6 = some (aw_ia E 4) := by rw [e_w12_11, aw_up_o _ (by omega)]; exact k_q6
  replace k_a : w12_11 a = some (.inr (11, [ii_v 0, .ref q1, .ref q2, .ref q3, .ref q4, .ref q5, .ref q6, .null, .null, .null, .null, .null, .null, .null, .null, .null, .null, .null, .null, .null, .null, .null, .null, .null, .null, .null, .null, .null, .null, ii_v 0, ii_v 0, ii_v 0, ii_v 0, ii_v 0, ii_v 0, .null, .null, ii_v 0, ii_v 0, ii_v 0, ii_v 0, ii_v 0, ii_v 0, .null, .null, ii_v 0, ii_v 0])) := by rw [e_w12_11]; exact aw_up_s _ _ _
  refine w_aload_n C dX10_init_46 rfl ?_
  refine w_iconst C dX10_init_47 ?_
  refine w_newi (N := 4) C rfl (by decide) (by omega) dX10_init_48 ?_
  intro q7 t_q7
  have l_q6_q7 : q6 < q7 := t_q7 _ _ k_q6
  obtain ⟨w13_12, e_w13_12⟩ : ∃ x : Nat → Option va_E, x = aw_up w12_11 q7 (aw_ia E 4) := ⟨_, rfl⟩
  rw [← e_w13_12]
  replace k_a : w13_12 a = some (.inr (11, [ii_v 0, .ref q1, .ref q2, .ref q3, .ref q4, .ref q5, .ref q6, .null, .null, .null, .null, .null, .null, .null, .null, .null, .null, .null, .null, .null, .null, .null, .null, .null, .null, .null, .null, .null, .null, ii_v 0, ii_v 0, ii_v 0, ii_v 0, ii_v 0, ii_v 0, .null, .null, ii_v 0, ii_v 0, ii_v 0, ii_v 0, ii_v 0, ii_v 0, .null, .null, ii_v 0, ii_v 0])) := by rw [e_w13_12, aw_up_o _ (by omega)]; exact k_a
  replace k_q1 : w13_12 q1 = some (aw_ia E 4) := by rw [e_w13_12, aw_up_o _ (by omega)]; exact k_q1
  replace k_q2 : w13_12 q2 = some (aw_ia E 4) := by rw [e_w13_12, aw_up_o _ (by omega)]; exact k_q2
  replace k_q3 : w13_12 q3 = some (aw_ia E 4) := by rw [e_w13_12, aw_up_o _ (by omega)]; exact k_q3
  replace k_q4 : w13_12 q4 = some (aw_ia E 4) := by rw [e_w13_12, aw_up_o _ (by omega)]; exact k_q4
  replace k_q5 : w13_12 q5 = some (aw_ia E 4) := by rw [e_w13_12, aw_up_o _ (by omega)]; exact k_q5
  replace k_q6 : w13_12 q6 = some (aw_ia E 4) := by rw [e_w13_12, aw_up_o _ (by omega)]; exact k_q6
  have k_q7 : w13_12 q7 = some (aw_ia E 4) := by rw [e_w13_12]; exact aw_up_s _ _ _
  refine w_putF (ci := 11) (i := 7) C iw_X10 rfl (by decide) rfl tyX10 tyX10_ok nmX10 rfl hnm rfl fl_X10_28 k_a (Nat.le_of_ble_eq_true rfl) rfl rfl dX10_init_50 ?_
  obtain ⟨w14_13, e_w14_13⟩ : ∃ x : Nat → Option va_E, x = aw_up w13_12 a (.inr (11, [ii_v 0, .ref q1, .ref q2, .ref q3, .ref q4, .ref q5, .ref q6, .null, .null, .null, .null, .null, .null, .null, .null, .null, .null, .null, .null, .null, .null, .null, .null, .null, .null, .null, .null, .null, .null, ii_v 0, ii_v 0, ii_v 0, ii_v 0, ii_v 0, ii_v 0, .null, .null, ii_v 0, ii_v 0, ii_v 0, ii_v 0, ii_v 0, ii_v 0, .null, .null, ii_v 0, ii_v 0].set 7 (.ref q7))) := ⟨_, rfl⟩
  rw [← e_w14_13]
  replace k_q1 : w14_13 q1 = some (aw_ia E 4) := by rw [e_w14_13, aw_up_o _ (by omega)]; exact k_q1
  replace k_q2 : w14_13 q2 = some (aw_ia E 4) := by rw [e_w14_13, aw_up_o _ (by omega)]; exact k_q2
  replace k_q3 : w14_13 q3 = some (aw_ia E 4) := by rw [e_w14_13, aw_up_o _ (by omega)]; exact k_q3
  replace k_q4 : w14_13 q4 = some (aw_ia E 4) := by rw [e_w14_13, aw_up_o _ (by omega)]; exact k_q4
  replace k_q5 : w14_13 q5 = some (aw_ia E 4) := by rw [e_w14_13, aw_up_o _ (by omega)]; exact k_q5
  replace k_q6 : w14_13 q6 = some (aw_ia E 4) := by rw [e_w14_13, aw_up_o _ (by omega)]; exact k_q6
  replace k_q7 : w14_13 q7 = some (aw_ia E 4) := by rw [e_w14_13, aw_up_o _ (by omega)]; exact k_q7
  replace k_a : w14_13 a = some (.inr (11, [ii_v 0, .ref q1, .ref q2, .ref q3, .ref q4, .ref q5, .ref q6, .ref q7, .null, .null, .null, .null, .null, .null, .null, .null, .null, .null, .null, .null, .null, .null, .null, .null, .null, .null, .null, .null, .null, ii_v 0, ii_v 0, ii_v 0, ii_v 0, ii_v 0, ii_v 0, .null, .null, ii_v 0, ii_v 0, ii_v 0, ii_v 0, ii_v 0, ii_v 0, .null, .null, ii_v 0, ii_v 0])) := by rw [e_w14_13]; exact aw_up_s _ _ _
  refine w_aload_n C dX10_init_53 rfl ?_
  refine w_iconst C dX10_init_54 ?_
  refine w_newi (N := 4) C rfl (by decide) (by omega) dX10_init_55 ?_
  intro q8 t_q8
  have l_q7_q8 : q7 < q8 := t_q8 _ _ k_q7
  obtain ⟨w15_14, e_w15_14⟩ : ∃ x : Nat → Option va_E, x = aw_up w14_13 q8 (aw_ia E 4) := ⟨_, rfl⟩
  rw [← e_w15_14]
  replace k_a : w15_14 a = some (.inr (11, [ii_v 0, .ref q1, .ref q2, .ref q3, .ref q4, .ref q5, .ref q6, .ref q7, .null, .null, .null, .null, .null, .null, .null, .null, .null, .null, .null, .null, .null, .null, .null, .null, .null, .null, .null, .null, .null, ii_v 0, ii_v 0, ii_v 0, ii_v 0, ii_v 0, ii_v 0, .null, .null, ii_v 0, ii_v 0, ii_v 0, ii_v 0, ii_v 0, ii_v 0, .null, .null, ii_v 0, ii_v 0])) := by rw [e_w15_14, aw_up_o _ (by omega)]; exact k_a
  replace k_q1 : w15_14 q1 = some (aw_ia E 4) := by rw [e_w15_14, aw_up_o _ (by omega)]; exact k_q1
  replace k_q2 : w15_14 q2 = some (aw_ia E 4) := by rw [e_w15_14, aw_up_o _ (by omega)]; exact k_q2
  replace k_q3 : w15_14 q3 = some (aw_ia E 4) := by rw [e_w15_14, aw_up_o _ (by omega)]; exact k_q3
  replace k_q4 : w15_14 q4 = some (aw_ia E 4) := by rw [e_w15_14, aw_up_o _ (by omega)]; exact k_q4
  replace k_q5 : w15_14 q5 = some (aw_ia E 4) := by rw [e_w15_14, aw_up_o _ (by omega)]; exact k_q5
  replace k_q6 : w15_14 q6 = some (aw_ia E 4) := by rw [e_w15_14, aw_up_o _ (by omega)]; exact k_q6
  replace k_q7 : w15_14 q7 = some (aw_ia E 4) := by rw [e_w15_14, aw_up_o _ (by omega)]; exact k_q7
  have k_q8 : w15_14 q8 = some (aw_ia E 4) := by rw [e_w15_14]; exact aw_up_s _ _ _
  refine w_putF (ci := 11) (i := 8) C iw_X10 rfl (by decide) rfl tyX10 tyX10_ok nmX10 rfl hnm rfl fl_X10_31 k_a (Nat.le_of_ble_eq_true rfl) rfl rfl dX10_init_57 ?_
  obtain ⟨w16_15, e_w16_15⟩ : ∃ x : Nat → Option va_E, x = aw_up w15_14 a (.inr (11, [ii_v 0, .ref q1, .ref q2, .ref q3, .ref q4, .ref q5, .ref q6, .ref q7, .null, .null, .null, .null, .null, .null, .null, .null, .null, .null, .null, .null, .null, .null, .null, .null, .null, .null, .null, .null, .null, ii_v 0, ii_v 0, ii_v 0, ii_v 0, ii_v 0, ii_v 0, .null, .null, ii_v 0, ii_v 0, ii_v 0, ii_v 0, ii_v 0, ii_v 0, .null, .null, ii_v 0, ii_v 0].set 8 (.ref q8))) := ⟨_, rfl⟩
  rw [← e_w16_15]
  replace k_q1 : w16_15 q1 = some (aw_ia E 4) := by rw [e_w16_15, aw_up_o _ (by omega)]; exact k_q1
  replace k_q2 : w16_15 q2 = some (aw_ia E 4) := by rw [e_w16_15, aw_up_o _ (by omega)]; exact k_q2
  replace k_q3 : w16_15 q3 = some (aw_ia E 4) := by rw [e_w16_15, aw_up_o _ (by omega)]; exact k_q3
  replace k_q4 : w16_15 q4 = some (aw_ia E 4) := by rw [e_w16_15, aw_up_o _ (by omega)]; exact k_q4
  replace k_q5 : w16_15 q5 = some (aw_ia E 4) := by rw [e_w16_15, aw_up_o _ (by omega)]; exact k_q5
  replace k_q6 : w16_15 q6 = some (aw_ia E 4) := by rw [e_w16_15, aw_up_o _ (by omega)]; exact k_q6
  replace k_q7 : w16_15 q7 = some (aw_ia E 4) := by rw [e_w16_15, aw_up_o _ (by omega)]; exact k_q7
  replace k_q8 : w16_15 q8 = some (aw_ia E 4) := by rw [e_w16_15, aw_up_o _ (by omega)]; exact k_q8
  replace k_a : w16_15 a = some (.inr (11, [ii_v 0, .ref q1, .ref q2, .ref q3, .ref q4, .ref q5, .ref q6, .ref q7, .ref q8, .null, .null, .null, .null, .null, .null, .null, .null, .null, .null, .null, .null, .null, .null, .null, .null, .null, .null, .null, .null, ii_v 0, ii_v 0, ii_v 0, ii_v 0, ii_v 0, ii_v 0, .null, .null, ii_v 0, ii_v 0, ii_v 0, ii_v 0, ii_v 0, ii_v 0, .null, .null, ii_v 0, ii_v 0])) := by rw [e_w16_15]; exact aw_up_s _ _ _
  refine w_aload_n C dX10_init_60 rfl ?_
  refine w_iconst C dX10_init_61 ?_
  refine w_newi (N := 4) C rfl (by decide) (by omega) dX10_init_62 ?_
  intro q9 t_q9
  have l_q8_q9 : q8 < q9 := t_q9 _ _ k_q8
  obtain ⟨w17_16, e_w17_16⟩ : ∃ x : Nat → Option va_E, x = aw_up w16_15 q9 (aw_ia E 4) := ⟨_, rfl⟩
  rw [← e_w17_16]
  replace k_a : w17_16 a = some (.inr (11, [ii_v 0, .ref q1, .ref q2, .ref q3, .ref q4, .ref q5, .ref q6, .ref q7, .ref q8, .null, .null, .null, .null, .null, .null, .null, .null, .null, .null, .null, .null, .null, .null, .null, .null, .null, .null, .null, .null, ii_v 0, ii_v 0, ii_v 0, ii_v 0, ii_v 0, ii_v 0, .null, .null, ii_v 0, ii_v 0, ii_v 0, ii_v 0, ii_v 0, ii_v 0, .null, .null, ii_v 0, ii_v 0])) := by rw [e_w17_16, aw_up_o _ (by omega)]; exact k_a
  replace k_q1 : w17_16 q1 = some (aw_ia E 4) := by rw [e_w17_16, aw_up_o _ (by omega)]; exact k_q1
  replace k_q2 : w17_16 q2 = some (aw_ia E 4) := by rw [e_w17_16, aw_up_o _ (by omega)]; exact k_q2
  replace k_q3 : w17_16 q3 = some (aw_ia E 4) := by rw [e_w17_16, aw_up_o _ (by omega)]; exact k_q3
  replace k_q4 : w17_16 q4 = some (aw_ia E 4) := by rw [e_w17_16, aw_up_o _ (by omega)]; exact k_q4
  replace k_q5 : w17_16 q5 = some (aw_ia E 4) := by rw [e_w17_16, aw_up_o _ (by omega)]; exact k_q5
  replace k_q6 : w17_16 q6 = some (aw_ia E 4) := by rw [e_w17_16, aw_up_o _ (by omega)]; exact k_q6
  replace k_q7 : w17_16 q7 = some (aw_ia E 4) := by rw [e_w17_16, aw_up_o _ (by omega)]; exact k_q7
  replace k_q8 : w17_16 q8 = some (aw_ia E 4) := by rw [e_w17_16, aw_up_o _ (by omega)]; exact k_q8
  have k_q9 : w17_16 q9 = some (aw_ia E 4) := by rw [e_w17_16]; exact aw_up_s _ _ _
  refine w_putF (ci := 11) (i := 9) C iw_X10 rfl (by decide) rfl tyX10 tyX10_ok nmX10 rfl hnm rfl fl_X10_34 k_a (Nat.le_of_ble_eq_true rfl) rfl rfl dX10_init_64 ?_
  obtain ⟨w18_17, e_w18_17⟩ : ∃ x : Nat → Option va_E, x = aw_up w17_16 a (.inr (11, [ii_v 0, .ref q1, .ref q2, .ref q3, .ref q4, .ref q5, .ref q6, .ref q7, .ref q8, .null, .null, .null, .null, .null, .null, .null, .null, .null, .null, .null, .null, .null, .null, .null, .null, .null, .null, .null, .null, ii_v 0, ii_v 0, ii_v 0, ii_v 0, ii_v 0, ii_v 0, .null, .null, ii_v 0, ii_v 0, ii_v 0, ii_v 0, ii_v 0, ii_v 0, .null, .null, ii_v 0, ii_v 0].set 9 (.ref q9))) := ⟨_, rfl⟩
  rw [← e_w18_17]
  replace k_q1 : w18_17 q1 = some (aw_ia E 4) := by rw [e_w18_17, aw_up_o _ (by omega)]; exact k_q1
  replace k_q2 : w18_17 q2 = some (aw_ia E 4) := by rw [e_w18_17, aw_up_o _ (by omega)]; exact k_q2
  replace k_q3 : w18_17 q3 = some (aw_ia E 4) := by rw [e_w18_17, aw_up_o _ (by omega)]; exact k_q3
  replace k_q4 : w18_17 q4 = some (aw_ia E 4) := by rw [e_w18_17, aw_up_o _ (by omega)]; exact k_q4
  replace k_q5 : w18_17 q5 = some (aw_ia E 4) := by rw [e_w18_17, aw_up_o _ (by omega)]; exact k_q5
  replace k_q6 : w18_17 q6 = some (aw_ia E 4) := by rw [e_w18_17, aw_up_o _ (by omega)]; exact k_q6
  replace k_q7 : w18_17 q7 = some (aw_ia E 4) := by rw [e_w18_17, aw_up_o _ (by omega)]; exact k_q7
  replace k_q8 : w18_17 q8 = some (aw_ia E 4) := by rw [e_w18_17, aw_up_o _ (by omega)]; exact k_q8
  replace k_q9 : w18_17 q9 = some (aw_ia E 4) := by rw [e_w18_17, aw_up_o _ (by omega)]; exact k_q9
  replace k_a : w18_17 a = some (.inr (11, [ii_v 0, .ref q1, .ref q2, .ref q3, .ref q4, .ref q5, .ref q6, .ref q7, .ref q8, .ref q9, .null, .null, .null, .null, .null, .null, .null, .null, .null, .null, .null, .null, .null, .null, .null, .null, .null, .null, .null, ii_v 0, ii_v 0, ii_v 0, ii_v 0, ii_v 0, ii_v 0, .null, .null, ii_v 0, ii_v 0, ii_v 0, ii_v 0, ii_v 0, ii_v 0, .null, .null, ii_v 0, ii_v 0])) := by rw [e_w18_17]; exact aw_up_s _ _ _
  refine w_aload_n C dX10_init_67 rfl ?_
  refine w_iconst C dX10_init_68 ?_
  refine w_newi (N := 4) C rfl (by decide) (by omega) dX10_init_69 ?_
  intro q10 t_q10
  have l_q9_q10 : q9 < q10 := t_q10 _ _ k_q9
  obtain ⟨w19_18, e_w19_18⟩ : ∃ x : Nat → Option va_E, x = aw_up w18_17 q10 (aw_ia E 4) := ⟨_, rfl⟩
  rw [← e_w19_18]
  replace k_a : w19_18 a = some (.inr (11, [ii_v 0, .ref q1, .ref q2, .ref q3, .ref q4, .ref q5, .ref q6, .ref q7, .ref q8, .ref q9, .null, .null, .null, .null, .null, .null, .null, .null, .null, .null, .null, .null, .null, .null, .null, .null, .null, .null, .null, ii_v 0, ii_v 0, ii_v 0, ii_v 0, ii_v 0, ii_v 0, .null, .null, ii_v 0, ii_v 0, ii_v 0, ii_v 0, ii_v 0, ii_v 0, .null, .null, ii_v 0, ii_v 0])) := by rw [e_w19_18, aw_up_o _ (by omega)]; exact k_a
  replace k_q1 : w19_18 q1 = some (aw_ia E 4) := by rw [e_w19_18, aw_up_o _ (by omega)]; exact k_q1
  replace k_q2 : w19_18 q2 = some (aw_ia E 4) := by rw [e_w19_18, aw_up_o _ (by omega)]; exact k_q2
  replace k_q3 : w19_18 q3 = some (aw_ia E 4) := by rw [e_w19_18, aw_up_o _ (by omega)]; exact k_q3
  replace k_q4 : w19_18 q4 = some (aw_ia E 4) := by rw [e_w19_18, aw_up_o _ (by omega)]; exact k_q4
  replace k_q5 : w19_18 q5 = some (aw_ia E 4) := by rw [e_w19_18, aw_up_o _ (by omega)]; exact k_q5
  replace k_q6 : w19_18 q6 = some (aw_ia E 4) := by rw [e_w19_18, aw_up_o _ (by omega)]; exact k_q6
  replace k_q7 : w19_18 q7 = some (aw_ia E 4) := by rw [e_w19_18, aw_up_o _ (by omega)]; exact k_q7
  replace k_q8 : w19_18 q8 = some (aw_ia E 4) := by rw [e_w19_18, aw_up_o _ (by omega)]; exact k_q8
  replace k_q9 : w19_18 q9 = some (aw_ia E 4) := by rw [e_w19_18, aw_up_o _ (by omega)]; exact k_q9
  have k_q10 : w19_18 q10 = some (aw_ia E 4) := by rw [e_w19_18]; exact aw_up_s _ _ _
  refine w_putF (ci := 11) (i := 10) C iw_X10 rfl (by decide) rfl tyX10 tyX10_ok nmX10 rfl hnm rfl fl_X10_37 k_a (Nat.le_of_ble_eq_true rfl) rfl rfl dX10_init_71 ?_
  obtain ⟨w20_19, e_w20_19⟩ : ∃ x : Nat → Option va_E, x = aw_up w19_18 a (.inr (11, [ii_v 0, .ref q1, .ref q2, .ref q3, .ref q4, .ref q5, .ref q6, .ref q7, .ref q8, .ref q9, .null, .null, .null, .null, .null, .null, .null, .null, .null, .null, .null, .null, .null, .null, .null, .null, .null, .null, .null, ii_v 0, ii_v 0, ii_v 0, ii_v 0, ii_v 0, ii_v 0, .null, .null, ii_v 0, ii_v 0, ii_v 0, ii_v 0, ii_v 0, ii_v 0, .null, .null, ii_v 0, ii_v 0].set 10 (.ref q10))) := ⟨_, rfl⟩
  rw [← e_w20_19]
  replace k_q1 : w20_19 q1 = some (aw_ia E 4) := by rw [e_w20_19, aw_up_o _ (by omega)]; exact k_q1
  replace k_q2 : w20_19 q2 = some (aw_ia E 4) := by rw [e_w20_19, aw_up_o _ (by omega)]; exact k_q2
  replace k_q3 : w20_19 q3 = some (aw_ia E 4) := by rw [e_w20_19, aw_up_o _ (by omega)]; exact k_q3
  replace k_q4 : w20_19 q4 = some (aw_ia E 4) := by rw [e_w20_19, aw_up_o _ (by omega)]; exact k_q4
  replace k_q5 : w20_19 q5 = some (aw_ia E 4) := by rw [e_w20_19, aw_up_o _ (by omega)]; exact k_q5
  replace k_q6 : w20_19 q6 = some (aw_ia E 4) := by rw [e_w20_19, aw_up_o _ (by omega)]; exact k_q6
  replace k_q7 : w20_19 q7 = some (aw_ia E 4) := by rw [e_w20_19, aw_up_o _ (by omega)]; exact k_q7
  replace k_q8 : w20_19 q8 = some (aw_ia E 4) := by rw [e_w20_19, aw_up_o _ (by omega)]; exact k_q8
  replace k_q9 : w20_19 q9 = some (aw_ia E 4) := by rw [e_w20_19, aw_up_o _ (by omega)]; exact k_q9
  replace k_q10 : w20_19 q10 = some (aw_ia E 4) := by rw [e_w20_19, aw_up_o _ (by omega)]; exact k_q10
  replace k_a : w20_19 a = some (.inr (11, [ii_v 0, .ref q1, .ref q2, .ref q3, .ref q4, .ref q5, .ref q6, .ref q7, .ref q8, .ref q9, .ref q10, .null, .null, .null, .null, .null, .null, .null, .null, .null, .null, .null, .null, .null, .null, .null, .null, .null, .null, ii_v 0, ii_v 0, ii_v 0, ii_v 0, ii_v 0, ii_v 0, .null, .null, ii_v 0, ii_v 0, ii_v 0, ii_v 0, ii_v 0, ii_v 0, .null, .null, ii_v 0, ii_v 0])) := by rw [e_w20_19]; exact aw_up_s _ _ _
  refine w_aload_n C dX10_init_74 rfl ?_
  refine w_iconst C dX10_init_75 ?_
  refine w_newi (N := 4) C rfl (by decide) (by omega) dX10_init_76 ?_
  intro q11 t_q11
  have l_q10_q11 : q10 < q11 := t_q11 _ _ k_q10
  obtain ⟨w21_20, e_w21_20⟩ : ∃ x : Nat → Option va_E, x = aw_up w20_19 q11 (aw_ia E 4) := ⟨_, rfl⟩
  rw [← e_w21_20]
  replace k_a : w21_20 a = some (.inr (11, [ii_v 0, .ref q1, .ref q2, .ref q3, .ref q4, .ref q5, .ref q6, .ref q7, .ref q8, .ref q9, .ref q10, .null, .null, .null, .null, .null, .null, .null, .null, .null, .null, .null, .null, .null, .null, .null, .null, .null, .null, ii_v 0, ii_v 0, ii_v 0, ii_v 0, ii_v 0, ii_v 0, .null, .null, ii_v 0, ii_v 0, ii_v 0, ii_v 0, ii_v 0, ii_v 0, .null, .null, ii_v 0, ii_v 0])) := by rw [e_w21_20, aw_up_o _ (by omega)]; exact k_a
  replace k_q1 : w21_20 q1 = some (aw_ia E 4) := by rw [e_w21_20, aw_up_o _ (by omega)]; exact k_q1
  replace k_q2 : w21_20 q2 = some (aw_ia E 4) := by rw [e_w21_20, aw_up_o _ (by omega)]; exact k_q2
  replace k_q3 : w21_20 q3 = some (aw_ia E 4) := by rw [e_w21_20, aw_up_o _ (by omega)]; exact k_q3
  replace k_q4 : w21_20 q4 = some (aw_ia E 4) := by rw [e_w21_20, aw_up_o _ (by omega)]; exact k_q4
  replace k_q5 : w21_20 q5 = some (aw_ia E 4) := by rw [e_w21_20, aw_up_o _ (by omega)]; exact k_q5
  replace k_q6 : w21_20 q6 = some (aw_ia E 4) := by rw [e_w21_20, aw_up_o _ (by omega)]; exact k_q6
  replace k_q7 : w21_20 q7 = some (aw_ia E 4) := by rw [e_w21_20, aw_up_o _ (by omega)]; exact k_q7
  replace k_q8 : w21_20 q8 = some (aw_ia E 4) := by rw [e_w21_20, aw_up_o _ (by omega)]; exact k_q8
  replace k_q9 : w21_20 q9 = some (aw_ia E 4) := by rw [e_w21_20, aw_up_o _ (by omega)]; exact k_q9
  replace k_q10 : w21_20 q10 = some (aw_ia E 4) := by rw [e_w21_20, aw_up_o _ (by omega)]; exact k_q10
  have k_q11 : w21_20 q11 = some (aw_ia E 4) := by rw [e_w21_20]; exact aw_up_s _ _ _
  refine w_putF (ci := 11) (i := 11) C iw_X10 rfl (by decide) rfl tyX10 tyX10_ok nmX10 rfl hnm rfl fl_X10_40 k_a (Nat.le_of_ble_eq_true rfl) rfl rfl dX10_init_78 ?_
  obtain ⟨w22_21, e_w22_21⟩ : ∃ x : Nat → Option va_E, x = aw_up w21_20 a (.inr (11, [ii_v 0, .ref q1, .ref q2, .ref q3, .ref q4, .ref q5, .ref q6, .ref q7, .ref q8, .ref q9, .ref q10, .null, .null, .null, .null, .null, .null, .null, .null, .null, .null, .null, .null, .null, .null, .null, .null, .null, .null, ii_v 0, ii_v 0, ii_v 0, ii_v 0, ii_v 0, ii_v 0, .null, .null, ii_v 0, ii_v 0, ii_v 0, ii_v 0, ii_v 0, ii_v 0, .null, .null, ii_v 0, ii_v 0].set 11 (.ref q11))) := ⟨_, rfl⟩
  rw [← e_w22_21]
  replace k_q1 : w22_21 q1 = some (aw_ia E 4) := by rw [e_w22_21, aw_up_o _ (by omega)]; exact k_q1
  replace k_q2 : w22_21 q2 = some (aw_ia E 4) := by rw [e_w22_21, aw_up_o _ (by omega)]; exact k_q2
  replace k_q3 : w22_21 q3 = some (aw_ia E 4) := by rw [e_w22_21, aw_up_o _ (by omega)]; exact k_q3
  replace k_q4 : w22_21 q4 = some (aw_ia E 4) := by rw [e_w22_21, aw_up_o _ (by omega)]; exact k_q4
  replace k_q5 : w22_21 q5 = some (aw_ia E 4) := by rw [e_w22_21, aw_up_o _ (by omega)]; exact k_q5
  replace k_q6 : w22_21 q6 = some (aw_ia E 4) := by rw [e_w22_21, aw_up_o _ (by omega)]; exact k_q6
  replace k_q7 : w22_21 q7 = some (aw_ia E 4) := by rw [e_w22_21, aw_up_o _ (by omega)]; exact k_q7
  replace k_q8 : w22_21 q8 = some (aw_ia E 4) := by rw [e_w22_21, aw_up_o _ (by omega)]; exact k_q8
  replace k_q9 : w22_21 q9 = some (aw_ia E 4) := by rw [e_w22_21, aw_up_o _ (by omega)]; exact k_q9
  replace k_q10 : w22_21 q10 = some (aw_ia E 4) := by rw [e_w22_21, aw_up_o _ (by omega)]; exact k_q10
  replace k_q11 : w22_21 q11 = some (aw_ia E 4) := by rw [e_w22_21, aw_up_o _ (by omega)]; exact k_q11
  replace k_a : w22_21 a = some (.inr (11, [ii_v 0, .ref q1, .ref q2, .ref q3, .ref q4, .ref q5, .ref q6, .ref q7, .ref q8, .ref q9, .ref q10, .ref q11, .null, .null, .null, .null, .null, .null, .null, .null, .null, .null, .null, .null, .null, .null, .null, .null, .null, ii_v 0, ii_v 0, ii_v 0, ii_v 0, ii_v 0, ii_v 0, .null, .null, ii_v 0, ii_v 0, ii_v 0, ii_v 0, ii_v 0, ii_v 0, .null, .null, ii_v 0, ii_v 0])) := by rw [e_w22_21]; exact aw_up_s _ _ _
  refine w_aload_n C dX10_init_81 rfl ?_
  refine w_bipush C dX10_init_82 (by decide) ?_
  refine w_newi (N := 32) C rfl (by decide) (by omega) dX10_init_84 ?_
  intro q12 t_q12
  have l_q11_q12 : q11 < q12 := t_q12 _ _ k_q11
  obtain ⟨w23_22, e_w23_22⟩ : ∃ x : Nat → Option va_E, x = aw_up w22_21 q12 (aw_ia E 32) := ⟨_, rfl⟩
  rw [← e_w23_22]
  replace k_a : w23_22 a = some (.inr (11, [ii_v 0, .ref q1, .ref q2, .ref q3, .ref q4, .ref q5, .ref q6, .ref q7, .ref q8, .ref q9, .ref q10, .ref q11, .null, .null, .null, .null, .null, .null, .null, .null, .null, .null, .null, .null, .null, .null, .null, .null, .null, ii_v 0, ii_v 0, ii_v 0, ii_v 0, ii_v 0, ii_v 0, .null, .null, ii_v 0, ii_v 0, ii_v 0, ii_v 0, ii_v 0, ii_v 0, .null, .null, ii_v 0, ii_v 0])) := by rw [e_w23_22, aw_up_o _ (by omega)]; exact k_a
  replace k_q1 : w23_22 q1 = some (aw_ia E 4) := by rw [e_w23_22, aw_up_o _ (by omega)]; exact k_q1
  replace k_q2 : w23_22 q2 = some (aw_ia E 4) := by rw [e_w23_22, aw_up_o _ (by omega)]; exact k_q2
  replace k_q3 : w23_22 q3 = some (aw_ia E 4) := by rw [e_w23_22, aw_up_o _ (by omega)]; exact k_q3
  replace k_q4 : w23_22 q4 = some (aw_ia E 4) := by rw [e_w23_22, aw_up_o _ (by omega)]; exact k_q4
  replace k_q5 : w23_22 q5 = some (aw_ia E 4) := by rw [e_w23_22, aw_up_o _ (by omega)]; exact k_q5
  replace k_q6 : w23_22 q6 = some (aw_ia E 4) := by rw [e_w23_22, aw_up_o _ (by omega)]; exact k_q6
  replace k_q7 : w23_22 q7 = some (aw_ia E 4) := by rw [e_w23_22, aw_up_o _ (by omega)]; exact k_q7
  replace k_q8 : w23_22 q8 = some (aw_ia E 4) := by rw [e_w23_22, aw_up_o _ (by omega)]; exact k_q8
  replace k_q9 : w23_22 q9 = some (aw_ia E 4) := by rw [e_w23_22, aw_up_o _ (by omega)]; exact k_q9
  replace k_q10 : w23_22 q10 = some (aw_ia E 4) := by rw [e_w23_22, aw_up_o _ (by omega)]; exact k_q10
  replace k_q11 : w23_22 q11 = some (aw_ia E 4) := by rw [e_w23_22, aw_up_o _ (by omega)]; exact k_q11
  have k_q12 : w23_22 q12 = some (aw_ia E 32) := by rw [e_w23_22]; exact aw_up_s _ _ _
  refine w_putF (ci := 11) (i := 12) C iw_X10 rfl (by decide) rfl tyX10 tyX10_ok nmX10 rfl hnm rfl fl_X10_43 k_a (Nat.le_of_ble_eq_true rfl) rfl rfl dX10_init_86 ?_
  obtain ⟨w24_23, e_w24_23⟩ : ∃ x : Nat → Option va_E, x = aw_up w23_22 a (.inr (11, [ii_v 0, .ref q1, .ref q2, .ref q3, .ref q4, .ref q5, .ref q6, .ref q7, .ref q8, .ref q9, .ref q10, .ref q11, .null, .null, .null, .null, .null, .null, .null, .null, .null, .null, .null, .null, .null, .null, .null, .null, .null, ii_v 0, ii_v 0, ii_v 0, ii_v 0, ii_v 0, ii_v 0, .null, .null, ii_v 0, ii_v 0, ii_v 0, ii_v 0, ii_v 0, ii_v 0, .null, .null, ii_v 0, ii_v 0].set 12 (.ref q12))) := ⟨_, rfl⟩
  rw [← e_w24_23]
  replace k_q1 : w24_23 q1 = some (aw_ia E 4) := by rw [e_w24_23, aw_up_o _ (by omega)]; exact k_q1
  replace k_q2 : w24_23 q2 = some (aw_ia E 4) := by rw [e_w24_23, aw_up_o _ (by omega)]; exact k_q2
  replace k_q3 : w24_23 q3 = some (aw_ia E 4) := by rw [e_w24_23, aw_up_o _ (by omega)]; exact k_q3
  replace k_q4 : w24_23 q4 = some (aw_ia E 4) := by rw [e_w24_23, aw_up_o _ (by omega)]; exact k_q4
  replace k_q5 : w24_23 q5 = some (aw_ia E 4) := by rw [e_w24_23, aw_up_o _ (by omega)]; exact k_q5
  replace k_q6 : w24_23 q6 = some (aw_ia E 4) := by rw [e_w24_23, aw_up_o _ (by omega)]; exact k_q6
  replace k_q7 : w24_23 q7 = some (aw_ia E 4) := by rw [e_w24_23, aw_up_o _ (by omega)]; exact k_q7
  replace k_q8 : w24_23 q8 = some (aw_ia E 4) := by rw [e_w24_23, aw_up_o _ (by omega)]; exact k_q8
  replace k_q9 : w24_23 q9 = some (aw_ia E 4) := by rw [e_w24_23, aw_up_o _ (by omega)]; exact k_q9
  replace k_q10 : w24_23 q10 = some (aw_ia E 4) := by rw [e_w24_23, aw_up_o _ (by omega)]; exact k_q10
  replace k_q11 : w24_23 q11 = some (aw_ia E 4) := by rw [e_w24_23, aw_up_o _ (by omega)]; exact k_q11
  replace k_q12 : w24_23 q12 = some (aw_ia E 32) := by rw [e_w24_23, aw_up_o _ (by omega)]; exact k_q12
  replace k_a : w24_23 a = some (.inr (11, [ii_v 0, .ref q1, .ref q2, .ref q3, .ref q4, .ref q5, .ref q6, .ref q7, .ref q8, .ref q9, .ref q10, .ref q11, .ref q12, .null, .null, .null, .null, .null, .null, .null, .null, .null, .null, .null, .null, .null, .null, .null, .null, ii_v 0, ii_v 0, ii_v 0, ii_v 0, ii_v 0, ii_v 0, .null, .null, ii_v 0, ii_v 0, ii_v 0, ii_v 0, ii_v 0, ii_v 0, .null, .null, ii_v 0, ii_v 0])) := by rw [e_w24_23]; exact aw_up_s _ _ _
  refine w_aload_n C dX10_init_89 rfl ?_
  refine w_bipush C dX10_init_90 (by decide) ?_
  refine w_newi (N := 31) C rfl (by decide) (by omega) dX10_init_92 ?_
  intro q13 t_q13
  have l_q12_q13 : q12 < q13 := t_q13 _ _ k_q12
  obtain ⟨w25_24, e_w25_24⟩ : ∃ x : Nat → Option va_E, x = aw_up w24_23 q13 (aw_ia E 31) := ⟨_, rfl⟩
  rw [← e_w25_24]
  replace k_a : w25_24 a = some (.inr (11, [ii_v 0, .ref q1, .ref q2, .ref q3, .ref q4, .ref q5, .ref q6, .ref q7, .ref q8, .ref q9, .ref q10, .ref q11, .ref q12, .null, .null, .null, .null, .null, .null, .null, .null, .null, .null, .null, .null, .null, .null, .null, .null, ii_v 0, ii_v 0, ii_v 0, ii_v 0, ii_v 0, ii_v 0, .null, .null, ii_v 0, ii_v 0, ii_v 0, ii_v 0, ii_v 0, ii_v 0, .null, .null, ii_v 0, ii_v 0])) := by rw [e_w25_24, aw_up_o _ (by omega)]; exact k_a
  replace k_q1 : w25_24 q1 = some (aw_ia E 4) := by rw [e_w25_24, aw_up_o _ (by omega)]; exact k_q1
  replace k_q2 : w25_24 q2 = some (aw_ia E 4) := by rw [e_w25_24, aw_up_o _ (by omega)]; exact k_q2
  replace k_q3 : w25_24 q3 = some (aw_ia E 4) := by rw [e_w25_24, aw_up_o _ (by omega)]; exact k_q3
  replace k_q4 : w25_24 q4 = some (aw_ia E 4) := by rw [e_w25_24, aw_up_o _ (by omega)]; exact k_q4
  replace k_q5 : w25_24 q5 = some (aw_ia E 4) := by rw [e_w25_24, aw_up_o _ (by omega)]; exact k_q5
  replace k_q6 : w25_24 q6 = some (aw_ia E 4) := by rw [e_w25_24, aw_up_o _ (by omega)]; exact k_q6
  replace k_q7 : w25_24 q7 = some (aw_ia E 4) := by rw [e_w25_24, aw_up_o _ (by omega)]; exact k_q7
  replace k_q8 : w25_24 q8 = some (aw_ia E 4) := by rw [e_w25_24, aw_up_o _ (by omega)]; exact k_q8
  replace k_q9 : w25_24 q9 = some (aw_ia E 4) := by rw [e_w25_24, aw_up_o _ (by omega)]; exact k_q9
  replace k_q10 : w25_24 q10 = some (aw_ia E 4) := by rw [e_w25_24, aw_up_o _ (by omega)]; exact k_q10
  replace k_q11 : w25_24 q11 = some (aw_ia E 4) := by rw [e_w25_24, aw_up_o _ (by omega)]; exact k_q11
  replace k_q12 : w25_24 q12 = some (aw_ia E 32) := by rw [e_w25_24, aw_up_o _ (by omega)]; exact k_q12
  have k_q13 : w25_24 q13 = some (aw_ia E 31) := by rw [e_w25_24]; exact aw_up_s _ _ _
  refine w_putF (ci := 11) (i := 13) C iw_X10 rfl (by decide) rfl tyX10 tyX10_ok nmX10 rfl hnm rfl fl_X10_46 k_a (Nat.le_of_ble_eq_true rfl) rfl rfl dX10_init_94 ?_
  obtain ⟨w26_25, e_w26_25⟩ : ∃ x : Nat → Option va_E, x = aw_up w25_24 a (.inr (11, [ii_v 0, .ref q1, .ref q2, .ref q3, .ref q4, .ref q5, .ref q6, .ref q7, .ref q8, .ref q9, .ref q10, .ref q11, .ref q12, .null, .null, .null, .null, .null, .null, .null, .null, .null, .null, .null, .null, .null, .null, .null, .null, ii_v 0, ii_v 0, ii_v 0, ii_v 0, ii_v 0, ii_v 0, .null, .null, ii_v 0, ii_v 0, ii_v 0, ii_v 0, ii_v 0, ii_v 0, .null, .null, ii_v 0, ii_v 0].set 13 (.ref q13))) := ⟨_, rfl⟩
  rw [← e_w26_25]
  replace k_q1 : w26_25 q1 = some (aw_ia E 4) := by rw [e_w26_25, aw_up_o _ (by omega)]; exact k_q1
  replace k_q2 : w26_25 q2 = some (aw_ia E 4) := by rw [e_w26_25, aw_up_o _ (by omega)]; exact k_q2
  replace k_q3 : w26_25 q3 = some (aw_ia E 4) := by rw [e_w26_25, aw_up_o _ (by omega)]; exact k_q3
  replace k_q4 : w26_25 q4 = some (aw_ia E 4) := by rw [e_w26_25, aw_up_o _ (by omega)]; exact k_q4
  replace k_q5 : w26_25 q5 = some (aw_ia E 4) := by rw [e_w26_25, aw_up_o _ (by omega)]; exact k_q5
  replace k_q6 : w26_25 q6 = some (aw_ia E 4) := by rw [e_w26_25, aw_up_o _ (by omega)]; exact k_q6
  replace k_q7 : w26_25 q7 = some (aw_ia E 4) := by rw [e_w26_25, aw_up_o _ (by omega)]; exact k_q7
  replace k_q8 : w26_25 q8 = some (aw_ia E 4) := by rw [e_w26_25, aw_up_o _ (by omega)]; exact k_q8
  replace k_q9 : w26_25 q9 = some (aw_ia E 4) := by rw [e_w26_25, aw_up_o _ (by omega)]; exact k_q9
  replace k_q10 : w26_25 q10 = some (aw_ia E 4) := by rw [e_w26_25, aw_up_o _ (by omega)]; exact k_q10
  replace k_q11 : w26_25 q11 = some (aw_ia E 4) := by rw [e_w26_25, aw_up_o _ (by omega)]; exact k_q11
  replace k_q12 : w26_25 q12 = some (aw_ia E 32) := by rw [e_w26_25, aw_up_o _ (by omega)]; exact k_q12
  replace k_q13 : w26_25 q13 = some (aw_ia E 31) := by rw [e_w26_25, aw_up_o _ (by omega)]; exact k_q13
  replace k_a : w26_25 a = some (.inr (11, [ii_v 0, .ref q1, .ref q2, .ref q3, .ref q4, .ref q5, .ref q6, .ref q7, .ref q8, .ref q9, .ref q10, .ref q11, .ref q12, .ref q13, .null, .null, .null, .null, .null, .null, .null, .null, .null, .null, .null, .null, .null, .null, .null, ii_v 0, ii_v 0, ii_v 0, ii_v 0, ii_v 0, ii_v 0, .null, .null, ii_v 0, ii_v 0, ii_v 0, ii_v 0, ii_v 0, ii_v 0, .null, .null, ii_v 0, ii_v 0])) := by rw [e_w26_25]; exact aw_up_s _ _ _
  refine w_aload_n C dX10_init_97 rfl ?_
  refine w_bipush C dX10_init_98 (by decide) ?_
  refine w_newi (N := 31) C rfl (by decide) (by omega) dX10_init_100 ?_
  intro q14 t_q14
  have l_q13_q14 : q13 < q14 := t_q14 _ _ k_q13
  obtain ⟨w27_26, e_w27_26⟩ : ∃ x : Nat → Option va_E, x = aw_up w26_25 q14 (aw_ia E 31) := ⟨_, rfl⟩
  rw [← e_w27_26]
  replace k_a : w27_26 a = some (.inr (11, [ii_v 0, .ref q1, .ref q2, .ref q3, .ref q4, .ref q5, .ref q6, .ref q7, .ref q8, .ref q9, .ref q10, .ref q11, .ref q12, .ref q13, .null, .null, .null, .null, .null, .null, .null, .null, .null, .null, .null, .null, .null, .null, .null, ii_v 0, ii_v 0, ii_v 0, ii_v 0, ii_v 0, ii_v 0, .null, .null, ii_v 0, ii_v 0, ii_v 0, ii_v 0, ii_v 0, ii_v 0, .null, .null, ii_v 0, ii_v 0])) := by rw [e_w27_26, aw_up_o _ (by omega)]; exact k_a
  replace k_q1 : w27_26 q1 = some (aw_ia E 4) := by rw [e_w27_26, aw_up_o _ (by omega)]; exact k_q1
  replace k_q2 : w27_26 q2 = some (aw_ia E 4) := by rw [e_w27_26, aw_up_o _ (by omega)]; exact k_q2
  replace k_q3 : w27_26 q3 = some (aw_ia E 4) := by rw [e_w27_26, aw_up_o _ (by omega)]; exact k_q3
  replace k_q4 : w27_26 q4 = some (aw_ia E 4) := by rw [e_w27_26, aw_up_o _ (by omega)]; exact k_q4
  replace k_q5 : w27_26 q5 = some (aw_ia E 4) := by rw [e_w27_26, aw_up_o _ (by omega)]; exact k_q5
  replace k_q6 : w27_26 q6 = some (aw_ia E 4) := by rw [e_w27_26, aw_up_o _ (by omega)]; exact k_q6
  replace k_q7 : w27_26 q7 = some (aw_ia E 4) := by rw [e_w27_26, aw_up_o _ (by omega)]; exact k_q7
  replace k_q8 : w27_26 q8 = some (aw_ia E 4) := by rw [e_w27_26, aw_up_o _ (by omega)]; exact k_q8
  replace k_q9 : w27_26 q9 = some (aw_ia E 4) := by rw [e_w27_26, aw_up_o _ (by omega)]; exact k_q9
  replace k_q10 : w27_26 q10 = some (aw_ia E 4) := by rw [e_w27_26, aw_up_o _ (by omega)]; exact k_q10
  replace k_q11 : w27_26 q11 = some (aw_ia E 4) := by rw [e_w27_26, aw_up_o _ (by omega)]; exact k_q11
  replace k_q12 : w27_26 q12 = some (aw_ia E 32) := by rw [e_w27_26, aw_up_o _ (by omega)]; exact k_q12
  replace k_q13 : w27_26 q13 = some (aw_ia E 31) := by rw [e_w27_26, aw_up_o _ (by omega)]; exact k_q13
  have k_q14 : w27_26 q14 = some (aw_ia E 31) := by rw [e_w27_26]; exact aw_up_s _ _ _
  refine w_putF (ci := 11) (i := 14) C iw_X10 rfl (by decide) rfl tyX10 tyX10_ok nmX10 rfl hnm rfl fl_X10_49 k_a (Nat.le_of_ble_eq_true rfl) rfl rfl dX10_init_102 ?_
  obtain ⟨w28_27, e_w28_27⟩ : ∃ x : Nat → Option va_E, x = aw_up w27_26 a (.inr (11, [ii_v 0, .ref q1, .ref q2, .ref q3, .ref q4, .ref q5, .ref q6, .ref q7, .ref q8, .ref q9, .ref q10, .ref q11, .ref q12, .ref q13, .null, .null, .null, .null, .null, .null, .null, .null, .null, .null, .null, .null, .null, .null, .null, ii_v 0, ii_v 0, ii_v 0, ii_v 0, ii_v 0, ii_v 0, .null, .null, ii_v 0, ii_v 0, ii_v 0, ii_v 0, ii_v 0, ii_v 0, .null, .null, ii_v 0, ii_v 0].set 14 (.ref q14))) := ⟨_, rfl⟩
  rw [← e_w28_27]
  replace k_q1 : w28_27 q1 = some (aw_ia E 4) := by rw [e_w28_27, aw_up_o _ (by omega)]; exact k_q1
  replace k_q2 : w28_27 q2 = some (aw_ia E 4) := by rw [e_w28_27, aw_up_o _ (by omega)]; exact k_q2
  replace k_q3 : w28_27 q3 = some (aw_ia E 4) := by rw [e_w28_27, aw_up_o _ (by omega)]; exact k_q3
  replace k_q4 : w28_27 q4 = some (aw_ia E 4) := by rw [e_w28_27, aw_up_o _ (by omega)]; exact k_q4
  replace k_q5 : w28_27 q5 = some (aw_ia E 4) := by rw [e_w28_27, aw_up_o _ (by omega)]; exact k_q5
  replace k_q6 : w28_27 q6 = some (aw_ia E 4) := by rw [e_w28_27, aw_up_o _ (by omega)]; exact k_q6
  replace k_q7 : w28_27 q7 = some (aw_ia E 4) := by rw [e_w28_27, aw_up_o _ (by omega)]; exact k_q7
  replace k_q8 : w28_27 q8 = some (aw_ia E 4) := by rw [e_w28_27, aw_up_o _ (by omega)]; exact k_q8
  replace k_q9 : w28_27 q9 = some (aw_ia E 4) := by rw [e_w28_27, aw_up_o _ (by omega)]; exact k_q9
  replace k_q10 : w28_27 q10 = some (aw_ia E 4) := by rw [e_w28_27, aw_up_o _ (by omega)]; exact k_q10
  replace k_q11 : w28_27 q11 = some (aw_ia E 4) := by rw [e_w28_27, aw_up_o _ (by omega)]; exact k_q11
  replace k_q12 : w28_27 q12 = some (aw_ia E 32) := by rw [e_w28_27, aw_up_o _ (by omega)]; exact k_q12
  replace k_q13 : w28_27 q13 = some (aw_ia E 31) := by rw [e_w28_27, aw_up_o _ (by omega)]; exact k_q13
  replace k_q14 : w28_27 q14 = some (aw_ia E 31) := by rw [e_w28_27, aw_up_o _ (by omega)]; exact k_q14
  replace k_a : w28_27 a = some (.inr (11, [ii_v 0, .ref q1, .ref q2, .ref q3, .ref q4, .ref q5, .ref q6, .ref q7, .ref q8, .ref q9, .ref q10, .ref q11, .ref q12, .ref q13, .ref q14, .null, .null, .null, .null, .null, .null, .null, .null, .null, .null, .null, .null, .null, .null, ii_v 0, ii_v 0, ii_v 0, ii_v 0, ii_v 0, ii_v 0, .null, .null, ii_v 0, ii_v 0, ii_v 0, ii_v 0, ii_v 0, ii_v 0, .null, .null, ii_v 0, ii_v 0])) := by rw [e_w28_27]; exact aw_up_s _ _ _
  refine w_aload_n C dX10_init_105 rfl ?_
  refine w_bipush C dX10_init_106 (by decide) ?_
  refine w_newi (N := 31) C rfl (by decide) (by omega) dX10_init_108 ?_
  intro q15 t_q15
  have l_q14_q15 : q14 < q15 := t_q15 _ _ k_q14
  obtain ⟨w29_28, e_w29_28⟩ : ∃ x : Nat → Option va_E, x = aw_up w28_27 q15 (aw_ia E 31) := ⟨_, rfl⟩
  rw [← e_w29_28]
  replace k_a : w29_28 a = some (.inr (11, [ii_v 0, .ref q1, .ref q2, .ref q3, .ref q4, .ref q5, .ref q6, .ref q7, .ref q8, .ref q9, .ref q10, .ref q11, .ref q12, .ref q13, .ref q14, .null, .null, .null, .null, .null, .null, .null, .null, .null, .null, .null, .null, .null, .null, ii_v 0, ii_v 0, ii_v 0, ii_v 0, ii_v 0, ii_v 0, .null, .null, ii_v 0, ii_v 0, ii_v 0, ii_v 0, ii_v 0, ii_v 0, .null, .null, ii_v 0, ii_v 0])) := by rw [e_w29_28, aw_up_o _ (by omega)]; exact k_a
  replace k_q1 : w29_28 q1 = some (aw_ia E 4) := by rw [e_w29_28, aw_up_o _ (by omega)]; exact k_q1
  replace k_q2 : w29_28 q2 = some (aw_ia E 4) := by rw [e_w29_28, aw_up_o _ (by omega)]; exact k_q2
  replace k_q3 : w29_28 q3 = some (aw_ia E 4) := by rw [e_w29_28, aw_up_o _ (by omega)]; exact k_q3
  replace k_q4 : w29_28 q4 = some (aw_ia E 4) := by rw [e_w29_28, aw_up_o _ (by omega)]; exact k_q4
  replace k_q5 : w29_28 q5 = some (aw_ia E 4) := by rw [e_w29_28, aw_up_o _ (by omega)]; exact k_q5
  replace k_q6 : w29_28 q6 = some (aw_ia E 4) := by rw [e_w29_28, aw_up_o _ (by omega)]; exact k_q6
  replace k_q7 : w29_28 q7 = some (aw_ia E 4) := by rw [e_w29_28, aw_up_o _ (by omega)]; exact k_q7
  replace k_q8 : w29_28 q8 = some (aw_ia E 4) := by rw [e_w29_28, aw_up_o _ (by omega)]; exact k_q8
  replace k_q9 : w29_28 q9 = some (aw_ia E 4) := by rw [e_w29_28, aw_up_o _ (by omega)]; exact k_q9
  replace k_q10 : w29_28 q10 = some (aw_ia E 4) := by rw [e_w29_28, aw_up_o _ (by omega)]; exact k_q10
  replace k_q11 : w29_28 q11 = some (aw_ia E 4) := by rw [e_w29_28, aw_up_o _ (by omega)]; exact k_q11
  replace k_q12 : w29_28 q12 = some (aw_ia E 32) := by rw [e_w29_28, aw_up_o _ (by omega)]; exact k_q12
  replace k_q13 : w29_28 q13 = some (aw_ia E 31) := by rw [e_w29_28, aw_up_o _ (by omega)]; exact k_q13
  replace k_q14 : w29_28 q14 = some (aw_ia E 31) := by rw [e_w29_28, aw_up_o _ (by omega)]; exact k_q14
  have k_q15 : w29_28 q15 = some (aw_ia E 31) := by rw [e_w29_28]; exact aw_up_s _ _ _
  refine w_putF (ci := 11) (i := 15) C iw_X10 rfl (by decide) rfl tyX10 tyX10_ok nmX10 rfl hnm rfl fl_X10_52 k_a (Nat.le_of_ble_eq_true rfl) rfl rfl dX10_init_110 ?_
  obtain ⟨w30_29, e_w30_29⟩ : ∃ x : Nat → Option va_E, x = aw_up w29_28 a (.inr (11, [ii_v 0, .ref q1, .ref q2, .ref q3, .ref q4, .ref q5, .ref q6, .ref q7, .ref q8, .ref q9, .ref q10, .ref q11, .ref q12, .ref q13, .ref q14, .null, .null, .null, .null, .null, .null, .null, .null, .null, .null, .null, .null, .null, .null, ii_v 0, ii_v 0, ii_v 0, ii_v 0, ii_v 0, ii_v 0, .null, .null, ii_v 0, ii_v 0, ii_v 0, ii_v 0, ii_v 0, ii_v 0, .null, .null, ii_v 0, ii_v 0].set 15 (.ref q15))) := ⟨_, rfl⟩
  rw [← e_w30_29]
  replace k_q1 : w30_29 q1 = some (aw_ia E 4) := by rw [e_w30_29, aw_up_o _ (by omega)]; exact k_q1
  replace k_q2 : w30_29 q2 = some (aw_ia E 4) := by rw [e_w30_29, aw_up_o _ (by omega)]; exact k_q2
  replace k_q3 : w30_29 q3 = some (aw_ia E 4) := by rw [e_w30_29, aw_up_o _ (by omega)]; exact k_q3
  replace k_q4 : w30_29 q4 = some (aw_ia E 4) := by rw [e_w30_29, aw_up_o _ (by omega)]; exact k_q4
  replace k_q5 : w30_29 q5 = some (aw_ia E 4) := by rw [e_w30_29, aw_up_o _ (by omega)]; exact k_q5
  replace k_q6 : w30_29 q6 = some (aw_ia E 4) := by rw [e_w30_29, aw_up_o _ (by omega)]; exact k_q6
  replace k_q7 : w30_29 q7 = some (aw_ia E 4) := by rw [e_w30_29, aw_up_o _ (by omega)]; exact k_q7
  replace k_q8 : w30_29 q8 = some (aw_ia E 4) := by rw [e_w30_29, aw_up_o _ (by omega)]; exact k_q8
  replace k_q9 : w30_29 q9 = some (aw_ia E 4) := by rw [e_w30_29, aw_up_o _ (by omega)]; exact k_q9
  replace k_q10 : w30_29 q10 = some (aw_ia E 4) := by rw [e_w30_29, aw_up_o _ (by omega)]; exact k_q10
  replace k_q11 : w30_29 q11 = some (aw_ia E 4) := by rw [e_w30_29, aw_up_o _ (by omega)]; exact k_q11
  replace k_q12 : w30_29 q12 = some (aw_ia E 32) := by rw [e_w30_29, aw_up_o _ (by omega)]; exact k_q12
  replace k_q13 : w30_29 q13 = some (aw_ia E 31) := by rw [e_w30_29, aw_up_o _ (by omega)]; exact k_q13
  replace k_q14 : w30_29 q14 = some (aw_ia E 31) := by rw [e_w30_29, aw_up_o _ (by omega)]; exact k_q14
  replace k_q15 : w30_29 q15 = some (aw_ia E 31) := by rw [e_w30_29, aw_up_o _ (by omega)]; exact k_q15
  replace k_a : w30_29 a = some (.inr (11, [ii_v 0, .ref q1, .ref q2, .ref q3, .ref q4, .ref q5, .ref q6, .ref q7, .ref q8, .ref q9, .ref q10, .ref q11, .ref q12, .ref q13, .ref q14, .ref q15, .null, .null, .null, .null, .null, .null, .null, .null, .null, .null, .null, .null, .null, ii_v 0, ii_v 0, ii_v 0, ii_v 0, ii_v 0, ii_v 0, .null, .null, ii_v 0, ii_v 0, ii_v 0, ii_v 0, ii_v 0, ii_v 0, .null, .null, ii_v 0, ii_v 0])) := by rw [e_w30_29]; exact aw_up_s _ _ _
  refine w_aload_n C dX10_init_113 rfl ?_
  refine w_bipush C dX10_init_114 (by decide) ?_
  refine w_newi (N := 31) C rfl (by decide) (by omega) dX10_init_116 ?_
  intro q16 t_q16
  have l_q15_q16 : q15 < q16 := t_q16 _ _ k_q15
  obtain ⟨w31_30, e_w31_30⟩ : ∃ x : Nat → Option va_E, x = aw_up w30_29 q16 (aw_ia E 31) := ⟨_, rfl⟩
  rw [← e_w31_30]
  replace k_a : w31_30 a = some (.inr (11, [ii_v 0, .ref q1, .ref q2, .ref q3, .ref q4, .ref q5, .ref q6, .ref q7, .ref q8, .ref q9, .ref q10, .ref q11, .ref q12, .ref q13, .ref q14, .ref q15, .null, .null, .null, .null, .null, .null, .null, .null, .null, .null, .null, .null, .null, ii_v 0, ii_v 0, ii_v 0, ii_v 0, ii_v 0, ii_v 0, .null, .null, ii_v 0, ii_v 0, ii_v 0, ii_v 0, ii_v 0, ii_v 0, .null, .null, ii_v 0, ii_v 0])) := by rw [e_w31_30, aw_up_o _ (by omega)]; exact k_a
  replace k_q1 : w31_30 q1 = some (aw_ia E 4) := by rw [e_w31_30, aw_up_o _ (by omega)]; exact k_q1
  replace k_q2 : w31_30 q2 = some (aw_ia E 4) := by rw [e_w31_30, aw_up_o _ (by omega)]; exact k_q2
  replace k_q3 : w31_30 q3 = some (aw_ia E 4) := by rw [e_w31_30, aw_up_o _ (by omega)]; exact k_q3
  replace k_q4 : w31_30 q4 = some (aw_ia E 4) := by rw [e_w31_30, aw_up_o _ (by omega)]; exact k_q4
  replace k_q5 : w31_30 q5 = some (aw_ia E 4) := by rw [e_w31_30, aw_up_o _ (by omega)]; exact k_q5
  replace k_q6 : w31_30 q6 = some (aw_ia E 4) := by rw [e_w31_30, aw_up_o _ (by omega)]; exact k_q6
  replace k_q7 : w31_30 q7 = some (aw_ia E 4) := by rw [e_w31_30, aw_up_o _ (by omega)]; exact k_q7
  replace k_q8 : w31_30 q8 = some (aw_ia E 4) := by rw [e_w31_30, aw_up_o _ (by omega)]; exact k_q8
  replace k_q9 : w31_30 q9 = some (aw_ia E 4) := by rw [e_w31_30, aw_up_o _ (by omega)]; exact k_q9
  replace k_q10 : w31_30 q10 = some (aw_ia E 4) := by rw [e_w31_30, aw_up_o _ (by omega)]; exact k_q10
  replace k_q11 : w31_30 q11 = some (aw_ia E 4) := by rw [e_w31_30, aw_up_o _ (by omega)]; exact k_q11
  replace k_q12 : w31_30 q12 = some (aw_ia E 32) := by rw [e_w31_30, aw_up_o _ (by omega)]; exact k_q12
  replace k_q13 : w31_30 q13 = some (aw_ia E 31) := by rw [e_w31_30, aw_up_o _ (by omega)]; exact k_q13
  replace k_q14 : w31_30 q14 = some (aw_ia E 31) := by rw [e_w31_30, aw_up_o _ (by omega)]; exact k_q14
  replace k_q15 : w31_30 q15 = some (aw_ia E 31) := by rw [e_w31_30, aw_up_o _ (by omega)]; exact k_q15
  have k_q16 : w31_30 q16 = some (aw_ia E 31) := by rw [e_w31_30]; exact aw_up_s _ _ _
  refine w_putF (ci := 11) (i := 16) C iw_X10 rfl (by decide) rfl tyX10 tyX10_ok nmX10 rfl hnm rfl fl_X10_55 k_a (Nat.le_of_ble_eq_true rfl) rfl rfl dX10_init_118 ?_
  obtain ⟨w32_31, e_w32_31⟩ : ∃ x : Nat → Option va_E, x = aw_up w31_30 a (.inr (11, [ii_v 0, .ref q1, .ref q2, .ref q3, .ref q4, .ref q5, .ref q6, .ref q7, .ref q8, .ref q9, .ref q10, .ref q11, .ref q12, .ref q13, .ref q14, .ref q15, .null, .null, .null, .null, .null, .null, .null, .null, .null, .null, .null, .null, .null, ii_v 0, ii_v 0, ii_v 0, ii_v 0, ii_v 0, ii_v 0, .null, .null, ii_v 0, ii_v 0, ii_v 0, ii_v 0, ii_v 0, ii_v 0, .null, .null, ii_v 0, ii_v 0].set 16 (.ref q16))) := ⟨_, rfl⟩
  rw [← e_w32_31]
  replace k_q1 : w32_31 q1 = some (aw_ia E 4) := by rw [e_w32_31, aw_up_o _ (by omega)]; exact k_q1
  replace k_q2 : w32_31 q2 = some (aw_ia E 4) := by rw [e_w32_31, aw_up_o _ (by omega)]; exact k_q2
  replace k_q3 : w32_31 q3 = some (aw_ia E 4) := by rw [e_w32_31, aw_up_o _ (by omega)]; exact k_q3
  replace k_q4 : w32_31 q4 = some (aw_ia E 4) := by rw [e_w32_31, aw_up_o _ (by omega)]; exact k_q4
  replace k_q5 : w32_31 q5 = some (aw_ia E 4) := by rw [e_w32_31, aw_up_o _ (by omega)]; exact k_q5
  replace k_q6 : w32_31 q6 = some (aw_ia E 4) := by rw [e_w32_31, aw_up_o _ (by omega)]; exact k_q6
  replace k_q7 : w32_31 q7 = some (aw_ia E 4) := by rw [e_w32_31, aw_up_o _ (by omega)]; exact k_q7
  replace k_q8 : w32_31 q8 = some (aw_ia E 4) := by rw [e_w32_31, aw_up_o _ (by omega)]; exact k_q8
  replace k_q9 : w32_31 q9 = some (aw_ia E 4) := by rw [e_w32_31, aw_up_o _ (by omega)]; exact k_q9
  replace k_q10 : w32_31 q10 = some (aw_ia E 4) := by rw [e_w32_31, aw_up_o _ (by omega)]; exact k_q10
  replace k_q11 : w32_31 q11 = some (aw_ia E 4) := by rw [e_w32_31, aw_up_o _ (by omega)]; exact k_q11
  replace k_q12 : w32_31 q12 = some (aw_ia E 32) := by rw [e_w32_31, aw_up_o _ (by omega)]; exact k_q12
  replace k_q13 : w32_31 q13 = some (aw_ia E 31) := by rw [e_w32_31, aw_up_o _ (by omega)]; exact k_q13
  replace k_q14 : w32_31 q14 = some (aw_ia E 31) := by rw [e_w32_31, aw_up_o _ (by omega)]; exact k_q14
  replace k_q15 : w32_31 q15 = some (aw_ia E 31) := by rw [e_w32_31, aw_up_o _ (by omega)]; exact k_q15
  replace k_q16 : w32_31 q16 = some (aw_ia E 31) := by rw [e_w32_31, aw_up_o _ (by omega)]; exact k_q16
  replace k_a : w32_31 a = some (.inr (11, [ii_v 0, .ref q1, .ref q2, .ref q3, .ref q4, .ref q5, .ref q6, .ref q7, .ref q8, .ref q9, .ref q10, .ref q11, .ref q12, .ref q13, .ref q14, .ref q15, .ref q16, .null, .null, .null, .null, .null, .null, .null, .null, .null, .null, .null, .null, ii_v 0, ii_v 0, ii_v 0, ii_v 0, ii_v 0, ii_v 0, .null, .null, ii_v 0, ii_v 0, ii_v 0, ii_v 0, ii_v 0, ii_v 0, .null, .null, ii_v 0, ii_v 0])) := by rw [e_w32_31]; exact aw_up_s _ _ _
  refine w_aload_n C dX10_init_121 rfl ?_
  refine w_bipush C dX10_init_122 (by decide) ?_
  refine w_newi (N := 31) C rfl (by decide) (by omega) dX10_init_124 ?_
  intro q17 t_q17
  have l_q16_q17 : q16 < q17 := t_q17 _ _ k_q16
  obtain ⟨w33_32, e_w33_32⟩ : ∃ x : Nat → Option va_E, x = aw_up w32_31 q17 (aw_ia E 31) := ⟨_, rfl⟩
  rw [← e_w33_32]
  replace k_a : w33_32 a = some (.inr (11, [ii_v 0, .ref q1, .ref q2, .ref q3, .ref q4, .ref q5, .ref q6, .ref q7, .ref q8, .ref q9, .ref q10, .ref q11, .ref q12, .ref q13, .ref q14, .ref q15, .ref q16, .null, .null, .null, .null, .null, .null, .null, .null, .null, .null, .null, .null, ii_v 0, ii_v 0, ii_v 0, ii_v 0, ii_v 0, ii_v 0, .null, .null, ii_v 0, ii_v 0, ii_v 0, ii_v 0, ii_v 0, ii_v 0, .null, .null, ii_v 0, ii_v 0])) := by rw [e_w33_32, aw_up_o _ (by omega)]; exact k_a
  replace k_q1 : w33_32 q1 = some (aw_ia E 4) := by rw [e_w33_32, aw_up_o _ (by omega)]; exact k_q1
  replace k_q2 : w33_32 q2 = some (aw_ia E 4) := by rw [e_w33_32, aw_up_o _ (by omega)]; exact k_q2
  replace k_q3 : w33_32 q3 = some (aw_ia E 4) := by rw [e_w33_32, aw_up_o _ (by omega)]; exact k_q3
  replace k_q4 : w33_32 q4 = some (aw_ia E 4) := by rw [e_w33_32, aw_up_o _ (by omega)]; exact k_q4
  replace k_q5 : w33_32 q5 = some (aw_ia E 4) := by rw [e_w33_32, aw_up_o _ (by omega)]; exact k_q5
  replace k_q6 : w33_32 q6 = some (aw_ia E 4) := by rw [e_w33_32, aw_up_o _ (by omega)]; exact k_q6
  replace k_q7 : w33_32 q7 = some (aw_ia E 4) := by rw [e_w33_32, aw_up_o _ (by omega)]; exact k_q7
  replace k_q8 : w33_32 q8 = some (aw_ia E 4) := by rw [e_w33_32, aw_up_o _ (by omega)]; exact k_q8
  replace k_q9 : w33_32 q9 = some (aw_ia E 4) := by rw [e_w33_32, aw_up_o _ (by omega)]; exact k_q9
  replace k_q10 : w33_32 q10 = some (aw_ia E 4) := by rw [e_w33_32, aw_up_o _ (by omega)]; exact k_q10
  replace k_q11 : w33_32 q11 = some (aw_ia E 4) := by rw [e_w33_32, aw_up_o _ (by omega)]; exact k_q11
  replace k_q12 : w33_32 q12 = some (aw_ia E 32) := by rw [e_w33_32, aw_up_o _ (by omega)]; exact k_q12
  replace k_q13 : w33_32 q13 = some (aw_ia E 31) := by rw [e_w33_32, aw_up_o _ (by omega)]; exact k_q13
  replace k_q14 : w33_32 q14 = some (aw_ia E 31) := by rw [e_w33_32, aw_up_o _ (by omega)]; exact k_q14
  replace k_q15 : w33_32 q15 = some (aw_ia E 31) := by rw [e_w33_32, aw_up_o _ (by omega)]; exact k_q15
  replace k_q16 : w33_32 q16 = some (aw_ia E 31) := by rw [e_w33_32, aw_up_o _ (by omega)]; exact k_q16
  have k_q17 : w33_32 q17 = some (aw_ia E 31) := by rw [e_w33_32]; exact aw_up_s _ _ _
  refine w_putF (ci := 11) (i := 17) C iw_X10 rfl (by decide) rfl tyX10 tyX10_ok nmX10 rfl hnm rfl fl_X10_58 k_a (Nat.le_of_ble_eq_true rfl) rfl rfl dX10_init_126 ?_
  obtain ⟨w34_33, e_w34_33⟩ : ∃ x : Nat → Option va_E, x = aw_up w33_32 a (.inr (11, [ii_v 0, .ref q1, .ref q2, .ref q3, .ref q4, .ref q5, .ref q6, .ref q7, .ref q8, .ref q9, .ref q10, .ref q11, .ref q12, .ref q13, .ref q14, .ref q15, .ref q16, .null, .null, .null, .null, .null, .null, .null, .null, .null, .null, .null, .null, ii_v 0, ii_v 0, ii_v 0, ii_v 0, ii_v 0, ii_v 0, .null, .null, ii_v 0, ii_v 0, ii_v 0, ii_v 0, ii_v 0, ii_v 0, .null, .null, ii_v 0, ii_v 0].set 17 (.ref q17))) := ⟨_, rfl⟩
  rw [← e_w34_33]
  replace k_q1 : w34_33 q1 = some (aw_ia E 4) := by rw [e_w34_33, aw_up_o _ (by omega)]; exact k_q1
  replace k_q2 : w34_33 q2 = some (aw_ia E 4) := by rw [e_w34_33, aw_up_o _ (by omega)]; exact k_q2
  replace k_q3 : w34_33 q3 = some (aw_ia E 4) := by rw [e_w34_33, aw_up_o _ (by omega)]; exact k_q3
  replace k_q4 : w34_33 q4 = some (aw_ia E 4) := by rw [e_w34_33, aw_up_o _ (by omega)]; exact k_q4
  replace k_q5 : w34_33 q5 = some (aw_ia E 4) := by rw [e_w34_33, aw_up_o _ (by omega)]; exact k_q5
  replace k_q6 : w34_33 q6 = some (aw_ia E 4) := by rw [e_w34_33, aw_up_o _ (by omega)]; exact k_q6
  replace k_q7 : w34_33 q7 = some (aw_ia E 4) := by rw [e_w34_33, aw_up_o _ (by omega)]; exact k_q7
  replace k_q8 : w34_33 q8 = some (aw_ia E 4) := by rw [e_w34_33, aw_up_o _ (by omega)]; exact k_q8
  replace k_q9 : w34_33 q9 = some (aw_ia E 4) := by rw [e_w34_33, aw_up_o _ (by omega)]; exact k_q9
  replace k_q10 : w34_33 q10 = some (aw_ia E 4) := by rw [e_w34_33, aw_up_o _ (by omega)]; exact k_q10
  replace k_q11 : w34_33 q11 = some (aw_ia E 4) := by rw [e_w34_33, aw_up_o _ (by omega)]; exact k_q11
  replace k_q12 : w34_33 q12 = some (aw_ia E 32) := by rw [e_w34_33, aw_up_o _ (by omega)]; exact k_q12
  replace k_q13 : w34_33 q13 = some (aw_ia E 31) := by rw [e_w34_33, aw_up_o _ (by omega)]; exact k_q13
  replace k_q14 : w34_33 q14 = some (aw_ia E 31) := by rw [e_w34_33, aw_up_o _ (by omega)]; exact k_q14
  replace k_q15 : w34_33 q15 = some (aw_ia E 31) := by rw [e_w34_33, aw_up_o _ (by omega)]; exact k_q15
  replace k_q16 : w34_33 q16 = some (aw_ia E 31) := by rw [e_w34_33, aw_up_o _ (by omega)]; exact k_q16
  replace k_q17 : w34_33 q17 = some (aw_ia E 31) := by rw [e_w34_33, aw_up_o _ (by omega)]; exact k_q17
  replace k_a : w34_33 a = some (.inr (11, [ii_v 0, .ref q1, .ref q2, .ref q3, .ref q4, .ref q5, .ref q6, .ref q7, .ref q8, .ref q9, .ref q10, .ref q11, .ref q12, .ref q13, .ref q14, .ref q15, .ref q16, .ref q17, .null, .null, .null, .null, .null, .null, .null, .null, .null, .null, .null, ii_v 0, ii_v 0, ii_v 0, ii_v 0, ii_v 0, ii_v 0, .null, .null, ii_v 0, ii_v 0, ii_v 0, ii_v 0, ii_v 0, ii_v 0, .null, .null, ii_v 0, ii_v 0])) := by rw [e_w34_33]; exact aw_up_s _ _ _
  refine w_aload_n C dX10_init_129 rfl ?_
  refine w_bipush C dX10_init_130 (by decide) ?_
  refine w_newi (N := 31) C rfl (by decide) (by omega) dX10_init_132 ?_
  intro q18 t_q18
  have l_q17_q18 : q17 < q18 := t_q18 _ _ k_q17
  obtain ⟨w35_34, e_w35_34⟩ : ∃ x : Nat → Option va_E, x = aw_up w34_33 q18 (aw_ia E 31) := ⟨_, rfl⟩
  rw [← e_w35_34]
  replace k_a : w35_34 a = some (.inr (11, [ii_v 0, .ref q1, .ref q2, .ref q3, .ref q4, .ref q5, .ref q6, .ref q7, .ref q8, .ref q9, .ref q10, .ref q11, .ref q12, .ref q13, .ref q14, .ref q15, .ref q16, .ref q17, .null, .null, .null, .null, .null, .null, .null, .null, .null, .null, .null, ii_v 0, ii_v 0, ii_v 0, ii_v 0, ii_v 0, ii_v 0, .null, .null, ii_v 0, ii_v 0, ii_v 0, ii_v 0, ii_v 0, ii_v 0, .null, .null, ii_v 0, ii_v 0])) := by rw [e_w35_34, aw_up_o _ (by omega)]; exact k_a
  replace k_q1 : w35_34 q1 = some (aw_ia E 4) := by rw [e_w35_34, aw_up_o _ (by omega)]; exact k_q1
  replace k_q2 : w35_34 q2 = some (aw_ia E 4) := by rw [e_w35_34, aw_up_o _ (by omega)]; exact k_q2
  replace k_q3 : w35_34 q3 = some (aw_ia E 4) := by rw [e_w35_34, aw_up_o _ (by omega)]; exact k_q3
  replace k_q4 : w35_34 q4 = some (aw_ia E 4) := by rw [e_w35_34, aw_up_o _ (by omega)]; exact k_q4
  replace k_q5 : w35_34 q5 = some (aw_ia E 4) := by rw [e_w35_34, aw_up_o _ (by omega)]; exact k_q5
  replace k_q6 : w35_34 q6 = some (aw_ia E 4) := by rw [e_w35_34, aw_up_o _ (by omega)]; exact k_q6
  replace k_q7 : w35_34 q7 = some (aw_ia E 4) := by rw [e_w35_34, aw_up_o _ (by omega)]; exact k_q7
  replace k_q8 : w35_34 q8 = some (aw_ia E 4) := by rw [e_w35_34, aw_up_o _ (by omega)]; exact k_q8
  replace k_q9 : w35_34 q9 = some (aw_ia E 4) := by rw [e_w35_34, aw_up_o _ (by omega)]; exact k_q9
  replace k_q10 : w35_34 q10 = some (aw_ia E 4) := by rw [e_w35_34, aw_up_o _ (by omega)]; exact k_q10
  replace k_q11 : w35_34 q11 = some (aw_ia E 4) := by rw [e_w35_34, aw_up_o _ (by omega)]; exact k_q11
  replace k_q12 : w35_34 q12 = some (aw_ia E 32) := by rw [e_w35_34, aw_up_o _ (by omega)]; exact k_q12
  replace k_q13 : w35_34 q13 = some (aw_ia E 31) := by rw [e_w35_34, aw_up_o _ (by omega)]; exact k_q13
  replace k_q14 : w35_34 q14 = some (aw_ia E 31) := by rw [e_w35_34, aw_up_o _ (by omega)]; exact k_q14
  replace k_q15 : w35_34 q15 = some (aw_ia E 31) := by rw [e_w35_34, aw_up_o _ (by omega)]; exact k_q15
  replace k_q16 : w35_34 q16 = some (aw_ia E 31) := by rw [e_w35_34, aw_up_o _ (by omega)]; exact k_q16
  replace k_q17 : w35_34 q17 = some (aw_ia E 31) := by rw [e_w35_34, aw_up_o _ (by omega)]; exact k_q17
  have k_q18 : w35_34 q18 = some (aw_ia E 31) := by rw [e_w35_34]; exact aw_up_s _ _ _
  refine w_putF (ci := 11) (i := 18) C iw_X10 rfl (by decide) rfl tyX10 tyX10_ok nmX10 rfl hnm rfl fl_X10_61 k_a (Nat.le_of_ble_eq_true rfl) rfl rfl dX10_init_134 ?_
  obtain ⟨w36_35, e_w36_35⟩ : ∃ x : Nat → Option va_E, x = aw_up w35_34 a (.inr (11, [ii_v 0, .ref q1, .ref q2, .ref q3, .ref q4, .ref q5, .ref q6, .ref q7, .ref q8, .ref q9, .ref q10, .ref q11, .ref q12, .ref q13, .ref q14, .ref q15, .ref q16, .ref q17, .null, .null, .null, .null, .null, .null, .null, .null, .null, .null, .null, ii_v 0, ii_v 0, ii_v 0, ii_v 0, ii_v 0, ii_v 0, .null, .null, ii_v 0, ii_v 0, ii_v 0, ii_v 0, ii_v 0, ii_v 0, .null, .null, ii_v 0, ii_v 0].set 18 (.ref q18))) := ⟨_, rfl⟩
  rw [← e_w36_35]
  replace k_q1 : w36_35 q1 = some (aw_ia E 4) := by rw [e_w36_35, aw_up_o _ (by omega)]; exact k_q1
  replace k_q2 : w36_35 q2 = some (aw_ia E 4) := by rw [e_w36_35, aw_up_o _ (by omega)]; exact k_q2
  replace k_q3 : w36_35 q3 = some (aw_ia E 4) := by rw [e_w36_35, aw_up_o _ (by omega)]; exact k_q3
  replace k_q4 : w36_35 q4 = some (aw_ia E 4) := by rw [e_w36_35, aw_up_o _ (by omega)]; exact k_q4
  replace k_q5 : w36_35 q5 = some (aw_ia E 4) := by rw [e_w36_35, aw_up_o _ (by omega)]; exact k_q5
  replace k_q6 : w36_35 q6 = some (aw_ia E 4) := by rw [e_w36_35, aw_up_o _ (by omega)]; exact k_q6
  replace k_q7 : w36_35 q7 = some (aw_ia E 4) := by rw [e_w36_35, aw_up_o _ (by omega)]; exact k_q7
  replace k_q8 : w36_35 q8 = some (aw_ia E 4) := by rw [e_w36_35, aw_up_o _ (by omega)]; exact k_q8
  replace k_q9 : w36_35 q9 = some (aw_ia E 4) := by rw [e_w36_35, aw_up_o _ (by omega)]; exact k_q9
  replace k_q10 : w36_35 q10 = some (aw_ia E 4) := by rw [e_w36_35, aw_up_o _ (by omega)]; exact k_q10
  replace k_q11 : w36_35 q11 = some (aw_ia E 4) := by rw [e_w36_35, aw_up_o _ (by omega)]; exact k_q11
  replace k_q12 : w36_35 q12 = some (aw_ia E 32) := by rw [e_w36_35, aw_up_o _ (by omega)]; exact k_q12
  replace k_q13 : w36_35 q13 = some (aw_ia E 31) := by rw [e_w36_35, aw_up_o _ (by omega)]; exact k_q13
  replace k_q14 : w36_35 q14 = some (aw_ia E 31) := by rw [e_w36_35, aw_up_o _ (by omega)]; exact k_q14
  replace k_q15 : w36_35 q15 = some (aw_ia E 31) := by rw [e_w36_35, aw_up_o _ (by omega)]; exact k_q15
  replace k_q16 : w36_35 q16 = some (aw_ia E 31) := by rw [e_w36_35, aw_up_o _ (by omega)]; exact k_q16
  replace k_q17 : w36_35 q17 = some (aw_ia E 31) := by rw [e_w36_35, aw_up_o _ (by omega)]; exact k_q17
  replace k_q18 : w36_35 q18 = some (aw_ia E 31) := by rw [e_w36_35, aw_up_o _ (by omega)]; exact k_q18
  replace k_a : w36_35 a = some (.inr (11, [ii_v 0, .ref q1, .ref q2, .ref q3, .ref q4, .ref q5, .ref q6, .ref q7, .ref q8, .ref q9, .ref q10, .ref q11, .ref q12, .ref q13, .ref q14, .ref q15, .ref q16, .ref q17, .ref q18, .null, .null, .null, .null, .null, .null, .null, .null, .null, .null, ii_v 0, ii_v 0, ii_v 0, ii_v 0, ii_v 0, ii_v 0, .null, .null, ii_v 0, ii_v 0, ii_v 0, ii_v 0, ii_v 0, ii_v 0, .null, .null, ii_v 0, ii_v 0])) := by rw [e_w36_35]; exact aw_up_s _ _ _
  refine w_aload_n C dX10_init_137 rfl ?_
  refine w_bipush C dX10_init_138 (by decide) ?_
  refine w_newi (N := 31) C rfl (by decide) (by omega) dX10_init_140 ?_
  intro q19 t_q19
  have l_q18_q19 : q18 < q19 := t_q19 _ _ k_q18
  obtain ⟨w37_36, e_w37_36⟩ : ∃ x : Nat → Option va_E, x = aw_up w36_35 q19 (aw_ia E 31) := ⟨_, rfl⟩
  rw [← e_w37_36]
  replace k_a : w37_36 a = some (.inr (11, [ii_v 0, .ref q1, .ref q2, .ref q3, .ref q4, .ref q5, .ref q6, .ref q7, .ref q8, .ref q9, .ref q10, .ref q11, .ref q12, .ref q13, .ref q14, .ref q15, .ref q16, .ref q17, .ref q18, .null, .null, .null, .null, .null, .null, .null, .null, .null, .null, ii_v 0, ii_v 0, ii_v 0, ii_v 0, ii_v 0, ii_v 0, .null, .null, ii_v 0, ii_v 0, ii_v 0, ii_v 0, ii_v 0, ii_v 0, .null, .null, ii_v 0, ii_v 0])) := by rw [e_w37_36, aw_up_o _ (by omega)]; exact k_a
  replace k_q1 : w37_36 q1 = some (aw_ia E 4) := by rw [e_w37_36, aw_up_o _ (by omega)]; exact k_q1
  replace k_q2 : w37_36 q2 = some (aw_ia E 4) := by rw [e_w37_36, aw_up_o _ (by omega)]; exact k_q2
  replace k_q3 : w37_36 q3 = some (aw_ia E 4) := by rw [e_w37_36, aw_up_o _ (by omega)]; exact k_q3
  replace k_q4 : w37_36 q4 = some (aw_ia E 4) := by rw [e_w37_36, aw_up_o _ (by omega)]; exact k_q4
  replace k_q5 : w37_36 q5 = some (aw_ia E 4) := by rw [e_w37_36, aw_up_o _ (by omega)]; exact k_q5
  replace k_q6 : w37_36 q6 = some (aw_ia E 4) := by rw [e_w37_36, aw_up_o _ (by omega)]; exact k_q6
  replace k_q7 : w37_36 q7 = some (aw_ia E 4) := by rw [e_w37_36, aw_up_o _ (by omega)]; exact k_q7
  replace k_q8 : w37_36 q8 = some (aw_ia E 4) := by rw [e_w37_36, aw_up_o _ (by omega)]; exact k_q8
  replace k_q9 : w37_36 q9 = some (aw_ia E 4) := by rw [e_w37_36, aw_up_o _ (by omega)]; exact k_q9
  replace k_q10 : w37_36 q10 = some (aw_ia E 4) := by rw [e_w37_36, aw_up_o _ (by omega)]; exact k_q10
  replace k_q11 : w37_36 q11 = some (aw_ia E 4) := by rw [e_w37_36, aw_up_o _ (by omega)]; exact k_q11
  replace k_q12 : w37_36 q12 = some (aw_ia E 32) := by rw [e_w37_36, aw_up_o _ (by omega)]; exact k_q12
  replace k_q13 : w37_36 q13 = some (aw_ia E 31) := by rw [e_w37_36, aw_up_o _ (by omega)]; exact k_q13
  replace k_q14 : w37_36 q14 = some (aw_ia E 31) := by rw [e_w37_36, aw_up_o _ (by omega)]; exact k_q14
  replace k_q15 : w37_36 q15 = some (aw_ia E 31) := by rw [e_w37_36, aw_up_o _ (by omega)]; exact k_q15
  replace k_q16 : w37_36 q16 = some (aw_ia E 31) := by rw [e_w37_36, aw_up_o _ (by omega)]; exact k_q16
  replace k_q17 : w37_36 q17 = some (aw_ia E 31) := by rw [e_w37_36, aw_up_o _ (by omega)]; exact k_q17
  replace k_q18 : w37_36 q18 = some (aw_ia E 31) := by rw [e_w37_36, aw_up_o _ (by omega)]; exact k_q18
  have k_q19 : w37_36 q19 = some (aw_ia E 31) := by rw [e_w37_36]; exact aw_up_s _ _ _
  refine w_putF (ci := 11) (i := 19) C iw_X10 rfl (by decide) rfl tyX10 tyX10_ok nmX10 rfl hnm rfl fl_X10_64 k_a (Nat.le_of_ble_eq_true rfl) rfl rfl dX10_init_142 ?_
  obtain ⟨w38_37, e_w38_37⟩ : ∃ x : Nat → Option va_E, x = aw_up w37_36 a (.inr (11, [ii_v 0, .ref q1, .ref q2, .ref q3, .ref q4, .ref q5, .ref q6, .ref q7, .ref q8, .ref q9, .ref q10, .ref q11, .ref q12, .ref q13, .ref q14, .ref q15, .ref q16, .ref q17, .ref q18, .null, .null, .null, .null, .null, .null, .null, .null, .null, .null, ii_v 0, ii_v 0, ii_v 0, ii_v 0, ii_v 0, ii_v 0, .null, .null, ii_v 0, ii_v 0, ii_v 0, ii_v 0, ii_v 0, ii_v 0, .null, .null, ii_v 0, ii_v 0].set 19 (.ref q19))) := ⟨_, rfl⟩
  rw [← e_w38_37]
  replace k_q1 : w38_37 q1 = some (aw_ia E 4) := by rw [e_w38_37, aw_up_o _ (by omega)]; exact k_q1
  replace k_q2 : w38_37 q2 = some (aw_ia E 4) := by rw [e_w38_37, aw_up_o _ (by omega)]; exact k_q2
  replace k_q3 : w38_37 q3 = some (aw_ia E 4) := by rw [e_w38_37, aw_up_o _ (by omega)]; exact k_q3
  replace k_q4 : w38_37 q4 = some (aw_ia E 4) := by rw [e_w38_37, aw_up_o _ (by omega)]; exact k_q4
  replace k_q5 : w38_37 q5 = some (aw_ia E 4) := by rw [e_w38_37, aw_up_o _ (by omega)]; exact k_q5
  replace k_q6 : w38_37 q6 = some (aw_ia E 4) := by rw [e_w38_37, aw_up_o _ (by omega)]; exact k_q6
  replace k_q7 : w38_37 q7 = some (aw_ia E 4) := by rw [e_w38_37, aw_up_o _ (by omega)]; exact k_q7
  replace k_q8 : w38_37 q8 = some (aw_ia E 4) := by rw [e_w38_37, aw_up_o _ (by omega)]; exact k_q8
  replace k_q9 : w38_37 q9 = some (aw_ia E 4) := by rw [e_w38_37, aw_up_o _ (by omega)]; exact k_q9
  replace k_q10 : w38_37 q10 = some (aw_ia E 4) := by rw [e_w38_37, aw_up_o _ (by omega)]; exact k_q10
  replace k_q11 : w38_37 q11 = some (aw_ia E 4) := by rw [e_w38_37, aw_up_o _ (by omega)]; exact k_q11
  replace k_q12 : w38_37 q12 = some (aw_ia E 32) := by rw [e_w38_37, aw_up_o _ (by omega)]; exact k_q12
  replace k_q13 : w38_37 q13 = some (aw_ia E 31) := by rw [e_w38_37, aw_up_o _ (by omega)]; exact k_q13
  replace k_q14 : w38_37 q14 = some (aw_ia E 31) := by rw [e_w38_37, aw_up_o _ (by omega)]; exact k_q14
  replace k_q15 : w38_37 q15 = some (aw_ia E 31) := by rw [e_w38_37, aw_up_o _ (by omega)]; exact k_q15
  replace k_q16 : w38_37 q16 = some (aw_ia E 31) := by rw [e_w38_37, aw_up_o _ (by omega)]; exact k_q16
  replace k_q17 : w38_37 q17 = some (aw_ia E 31) := by rw [e_w38_37, aw_up_o _ (by omega)]; exact k_q17
  replace k_q18 : w38_37 q18 = some (aw_ia E 31) := by rw [e_w38_37, aw_up_o _ (by omega)]; exact k_q18
  replace k_q19 : w38_37 q19 = some (aw_ia E 31) := by rw [e_w38_37, aw_up_o _ (by omega)]; exact k_q19
  replace k_a : w38_37 a = some (.inr (11, [ii_v 0, .ref q1, .ref q2, .ref q3, .ref q4, .ref q5, .ref q6, .ref q7, .ref q8, .ref q9, .ref q10, .ref q11, .ref q12, .ref q13, .ref q14, .ref q15, .ref q16, .ref q17, .ref q18, .ref q19, .null, .null, .null, .null, .null, .null, .null, .null, .null, ii_v 0, ii_v 0, ii_v 0, ii_v 0, ii_v 0, ii_v 0, .null, .null, ii_v 0, ii_v 0, ii_v 0, ii_v 0, ii_v 0, ii_v 0, .null, .null, ii_v 0, ii_v 0])) := by rw [e_w38_37]; exact aw_up_s _ _ _
  refine w_aload_n C dX10_init_145 rfl ?_
  refine w_bipush C dX10_init_146 (by decide) ?_
  refine w_newi (N := 31) C rfl (by decide) (by omega) dX10_init_148 ?_
  intro q20 t_q20
  have l_q19_q20 : q19 < q20 := t_q20 _ _ k_q19
  obtain ⟨w39_38, e_w39_38⟩ : ∃ x : Nat → Option va_E, x = aw_up w38_37 q20 (aw_ia E 31) := ⟨_, rfl⟩
  rw [← e_w39_38]
  replace k_a : w39_38 a = some (.inr (11, [ii_v 0, .ref q1, .ref q2, .ref q3, .ref q4, .ref q5, .ref q6, .ref q7, .ref q8, .ref q9, .ref q10, .ref q11, .ref q12, .ref q13, .ref q14, .ref q15, .ref q16, .ref q17, .ref q18, .ref q19, .null, .null, .null, .null, .null, .null, .null, .null, .null, ii_v 0, ii_v 0, ii_v 0, ii_v 0, ii_v 0, ii_v 0, .null, .null, ii_v 0, ii_v 0, ii_v 0, ii_v 0, ii_v 0, ii_v 0, .null, .null, ii_v 0, ii_v 0])) := by rw [e_w39_38, aw_up_o _ (by omega)]; exact k_a
  replace k_q1 : w39_38 q1 = some (aw_ia E 4) := by rw [e_w39_38, aw_up_o _ (by omega)]; exact k_q1
  replace k_q2 : w39_38 q2 = some (aw_ia E 4) := by rw [e_w39_38, aw_up_o _ (by omega)]; exact k_q2
  replace k_q3 : w39_38 q3 = some (aw_ia E 4) := by rw [e_w39_38, aw_up_o _ (by omega)]; exact k_q3
  replace k_q4 : w39_38 q4 = some (aw_ia E 4) := by rw [e_w39_38, aw_up_o _ (by omega)]; exact k_q4
  replace k_q5 : w39_38 q5 = some (aw_ia E 4) := by rw [e_w39_38, aw_up_o _ (by omega)]; exact k_q5
  replace k_q6 : w39_38 q6 = some (aw_ia E 4) := by rw [e_w39_38, aw_up_o _ (by omega)]; exact k_q6
  replace k_q7 : w39_38 q7 = some (aw_ia E 4) := by rw [e_w39_38, aw_up_o _ (by omega)]; exact k_q7
  replace k_q8 : w39_38 q8 = some (aw_ia E 4) := by rw [e_w39_38, aw_up_o _ (by omega)]; exact k_q8
  replace k_q9 : w39_38 q9 = some (aw_ia E 4) := by rw [e_w39_38, aw_up_o _ (by omega)]; exact k_q9
  replace k_q10 : w39_38 q10 = some (aw_ia E 4) := by rw [e_w39_38, aw_up_o _ (by omega)]; exact k_q10
  replace k_q11 : w39_38 q11 = some (aw_ia E 4) := by rw [e_w39_38, aw_up_o _ (by omega)]; exact k_q11
  replace k_q12 : w39_38 q12 = some (aw_ia E 32) := by rw [e_w39_38, aw_up_o _ (by omega)]; exact k_q12
  replace k_q13 : w39_38 q13 = some (aw_ia E 31) := by rw [e_w39_38, aw_up_o _ (by omega)]; exact k_q13
  replace k_q14 : w39_38 q14 = some (aw_ia E 31) := by rw [e_w39_38, aw_up_o _ (by omega)]; exact k_q14
  replace k_q15 : w39_38 q15 = some (aw_ia E 31) := by rw [e_w39_38, aw_up_o _ (by omega)]; exact k_q15
  replace k_q16 : w39_38 q16 = some (aw_ia E 31) := by rw [e_w39_38, aw_up_o _ (by omega)]; exact k_q16
  replace k_q17 : w39_38 q17 = some (aw_ia E 31) := by rw [e_w39_38, aw_up_o _ (by omega)]; exact k_q17
  replace k_q18 : w39_38 q18 = some (aw_ia E 31) := by rw [e_w39_38, aw_up_o _ (by omega)]; exact k_q18
  replace k_q19 : w39_38 q19 = some (aw_ia E 31) := by rw [e_w39_38, aw_up_o _ (by omega)]; exact k_q19
  have k_q20 : w39_38 q20 = some (aw_ia E 31) := by rw [e_w39_38]; exact aw_up_s _ _ _
  refine w_putF (ci := 11) (i := 20) C iw_X10 rfl (by decide) rfl tyX10 tyX10_ok nmX10 rfl hnm rfl fl_X10_67 k_a (Nat.le_of_ble_eq_true rfl) rfl rfl dX10_init_150 ?_
  obtain ⟨w40_39, e_w40_39⟩ : ∃ x : Nat → Option va_E, x = aw_up w39_38 a (.inr (11, [ii_v 0, .ref q1, .ref q2, .ref q3, .ref q4, .ref q5, .ref q6, .ref q7, .ref q8, .ref q9, .ref q10, .ref q11, .ref q12, .ref q13, .ref q14, .ref q15, .ref q16, .ref q17, .ref q18, .ref q19, .null, .null, .null, .null, .null, .null, .null, .null, .null, ii_v 0, ii_v 0, ii_v 0, ii_v 0, ii_v 0, ii_v 0, .null, .null, ii_v 0, ii_v 0, ii_v 0, ii_v 0, ii_v 0, ii_v 0, .null, .null, ii_v 0, ii_v 0].set 20 (.ref q20))) := ⟨_, rfl⟩
  rw [← e_w40_39]
  replace k_q1 : w40_39 q1 = some (aw_ia E 4) := by rw [e_w40_39, aw_up_o _ (by omega)]; exact k_q1
  replace k_q2 : w40_39 q2 = some (aw_ia E 4) := by rw [e_w40_39, aw_up_o _ (by omega)]; exact k_q2
  replace k_q3 : w40_39 q3 = some (aw_ia E 4) := by rw [e_w40_39, aw_up_o _ (by omega)]; exact k_q3
  replace k_q4 : w40_39 q4 = some (aw_ia E 4) := by rw [e_w40_39, aw_up_o _ (by omega)]; exact k_q4
  replace k_q5 : w40_39 q5 = some (aw_ia E 4) := by rw [e_w40_39, aw_up_o _ (by omega)]; exact k_q5
  replace k_q6 : w40_39 q6 = some (aw_ia E 4) := by rw [e_w40_39, aw_up_o _ (by omega)]; exact k_q6
  replace k_q7 : w40_39 q7 = some (aw_ia E 4) := by rw [e_w40_39, aw_up_o _ (by omega)]; exact k_q7
  replace k_q8 : w40_39 q8 = some (aw_ia E 4) := by rw [e_w40_39, aw_up_o _ (by omega)]; exact k_q8
  replace k_q9 : w40_39 q9 = some (aw_ia E 4) := by rw [e_w40_39, aw_up_o _ (by omega)]; exact k_q9
  replace k_q10 : w40_39 q10 = some (aw_ia E 4) := by rw [e_w40_39, aw_up_o _ (by omega)]; exact k_q10
  replace k_q11 : w40_39 q11 = some (aw_ia E 4) := by rw [e_w40_39, aw_up_o _ (by omega)]; exact k_q11
  replace k_q12 : w40_39 q12 = some (aw_ia E 32) := by rw [e_w40_39, aw_up_o _ (by omega)]; exact k_q12
  replace k_q13 : w40_39 q13 = some (aw_ia E 31) := by rw [e_w40_39, aw_up_o _ (by omega)]; exact k_q13
  replace k_q14 : w40_39 q14 = some (aw_ia E 31) := by rw [e_w40_39, aw_up_o _ (by omega)]; exact k_q14
  replace k_q15 : w40_39 q15 = some (aw_ia E 31) := by rw [e_w40_39, aw_up_o _ (by omega)]; exact k_q15
  replace k_q16 : w40_39 q16 = some (aw_ia E 31) := by rw [e_w40_39, aw_up_o _ (by omega)]; exact k_q16
  replace k_q17 : w40_39 q17 = some (aw_ia E 31) := by rw [e_w40_39, aw_up_o _ (by omega)]; exact k_q17
  replace k_q18 : w40_39 q18 = some (aw_ia E 31) := by rw [e_w40_39, aw_up_o _ (by omega)]; exact k_q18
  replace k_q19 : w40_39 q19 = some (aw_ia E 31) := by rw [e_w40_39, aw_up_o _ (by omega)]; exact k_q19
  replace k_q20 : w40_39 q20 = some (aw_ia E 31) := by rw [e_w40_39, aw_up_o _ (by omega)]; exact k_q20
  replace k_a : w40_39 a = some (.inr (11, [ii_v 0, .ref q1, .ref q2, .ref q3, .ref q4, .ref q5, .ref q6, .ref q7, .ref q8, .ref q9, .ref q10, .ref q11, .ref q12, .ref q13, .ref q14, .ref q15, .ref q16, .ref q17, .ref q18, .ref q19, .ref q20, .null, .null, .null, .null, .null, .null, .null, .null, ii_v 0, ii_v 0, ii_v 0, ii_v 0, ii_v 0, ii_v 0, .null, .null, ii_v 0, ii_v 0, ii_v 0, ii_v 0, ii_v 0, ii_v 0, .null, .null, ii_v 0, ii_v 0])) := by rw [e_w40_39]; exact aw_up_s _ _ _
  refine w_aload_n C dX10_init_153 rfl ?_
  refine w_bipush C dX10_init_154 (by decide) ?_
  refine w_newi (N := 31) C rfl (by decide) (by omega) dX10_init_156 ?_
  intro q21 t_q21
  have l_q20_q21 : q20 < q21 := t_q21 _ _ k_q20
  obtain ⟨w41_40, e_w41_40⟩ : ∃ x : Nat → Option va_E, x = aw_up w40_39 q21 (aw_ia E 31) := ⟨_, rfl⟩
  rw [← e_w41_40]
  replace k_a : w41_40 a = some (.inr (11, [ii_v 0, .ref q1, .ref q2, .ref q3, .ref q4, .ref q5, .ref q6, .ref q7, .ref q8, .ref q9, .ref q10, .ref q11, .ref q12, .ref q13, .ref q14, .ref q15, .ref q16, .ref q17, .ref q18, .ref q19, .ref q20, .null, .null, .null, .null, .null, .null, .null, .null, ii_v 0, ii_v 0, ii_v 0, ii_v 0, ii_v 0, ii_v 0, .null, .null, ii_v 0, ii_v 0, ii_v 0, ii_v 0, ii_v 0, ii_v 0, .null, .null, ii_v 0, ii_v 0])) := by rw [e_w41_40, aw_up_o _ (by omega)]; exact k_a
  replace k_q1 : w41_40 q1 = some (aw_ia E 4) := by rw [e_w41_40, aw_up_o _ (by omega)]; exact k_q1
  replace k_q2 : w41_40 q2 = some (aw_ia E 4) := by rw [e_w41_40, aw_up_o _ (by omega)]; exact k_q2
  replace k_q3 : w41_40 q3 = some (aw_ia E 4) := by rw [e_w41_40, aw_up_o _ (by omega)]; exact k_q3
  replace k_q4 : w41_40 q4 = some (aw_ia E 4) := by rw [e_w41_40, aw_up_o _ (by omega)]; exact k_q4
  replace k_q5 : w41_40 q5 = some (aw_ia E 4) := by rw [e_w41_40, aw_up_o _ (by omega)]; exact k_q5
  replace k_q6 : w41_40 q6 = some (aw_ia E 4) := by rw [e_w41_40, aw_up_o _ (by omega)]; exact k_q6
  replace k_q7 : w41_40 q7 = some (aw_ia E 4) := by rw [e_w41_40, aw_up_o _ (by omega)]; exact k_q7
  replace k_q8 : w41_40 q8 = some (aw_ia E 4) := by rw [e_w41_40, aw_up_o _ (by omega)]; exact k_q8
  replace k_q9 : w41_40 q9 = some (aw_ia E 4) := by rw [e_w41_40, aw_up_o _ (by omega)]; exact k_q9
  replace k_q10 : w41_40 q10 = some (aw_ia E 4) := by rw [e_w41_40, aw_up_o _ (by omega)]; exact k_q10
  replace k_q11 : w41_40 q11 = some (aw_ia E 4) := by rw [e_w41_40, aw_up_o _ (by omega)]; exact k_q11
  replace k_q12 : w41_40 q12 = some (aw_ia E 32) := by rw [e_w41_40, aw_up_o _ (by omega)]; exact k_q12
  replace k_q13 : w41_40 q13 = some (aw_ia E 31) := by rw [e_w41_40, aw_up_o _ (by omega)]; exact k_q13
  replace k_q14 : w41_40 q14 = some (aw_ia E 31) := by rw [e_w41_40, aw_up_o _ (by omega)]; exact k_q14
  replace k_q15 : w41_40 q15 = some (aw_ia E 31) := by rw [e_w41_40, aw_up_o _ (by omega)]; exact k_q15
  replace k_q16 : w41_40 q16 = some (aw_ia E 31) := by rw [e_w41_40, aw_up_o _ (by omega)]; exact k_q16
  replace k_q17 : w41_40 q17 = some (aw_ia E 31) := by rw [e_w41_40, aw_up_o _ (by omega)]; exact k_q17
  replace k_q18 : w41_40 q18 = some (aw_ia E 31) := by rw [e_w41_40, aw_up_o _ (by omega)]; exact k_q18
  replace k_q19 : w41_40 q19 = some (aw_ia E 31) := by rw [e_w41_40, aw_up_o _ (by omega)]; exact k_q19
  replace k_q20 : w41_40 q20 = some (aw_ia E 31) := by rw [e_w41_40, aw_up_o _ (by omega)]; exact k_q20
  have k_q21 : w41_40 q21 = some (aw_ia E 31) := by rw [e_w41_40]; exact aw_up_s _ _ _
  refine w_putF (ci := 11) (i := 21) C iw_X10 rfl (by decide) rfl tyX10 tyX10_ok nmX10 rfl hnm rfl fl_X10_70 k_a (Nat.le_of_ble_eq_true rfl) rfl rfl dX10_init_158 ?_
  obtain ⟨w42_41, e_w42_41⟩ : ∃ x : Nat → Option va_E, x = aw_up w41_40 a (.inr (11, [ii_v 0, .ref q1, .ref q2, .ref q3, .ref q4, .ref q5, .ref q6, .ref q7, .ref q8, .ref q9, .ref q10, .ref q11, .ref q12, .ref q13, .ref q14, .ref q15, .ref q16, .ref q17, .ref q18, .ref q19, .ref q20, .null, .null, .null, .null, .null, .null, .null, .null, ii_v 0, ii_v 0, ii_v 0, ii_v 0, ii_v 0, ii_v 0, .null, .null, ii_v 0, ii_v 0, ii_v 0, ii_v 0, ii_v 0, ii_v 0, .null, .null, ii_v 0, ii_v 0].set 21 (.ref q21))) := ⟨_, rfl⟩
  rw [← e_w42_41]
  replace k_q1 : w42_41 q1 = some (aw_ia E 4) := by rw [e_w42_41, aw_up_o _ (by omega)]; exact k_q1
  replace k_q2 : w42_41 q2 = some (aw_ia E 4) := by rw [e_w42_41, aw_up_o _ (by omega)]; exact k_q2
  replace k_q3 : w42_41 q3 = some (aw_ia E 4) := by rw [e_w42_41, aw_up_o _ (by omega)]; exact k_q3
  replace k_q4 : w42_41 q4 = some (aw_ia E 4) := by rw [e_w42_41, aw_up_o _ (by omega)]; exact k_q4
  replace k_q5 : w42_41 q5 = some (aw_ia E 4) := by rw [e_w42_41, aw_up_o _ (by omega)]; exact k_q5
  replace k_q6 : w42_41 q6 = some (aw_ia E 4) := by rw [e_w42_41, aw_up_o _ (by omega)]; exact k_q6
  replace k_q7 : w42_41 q7 = some (aw_ia E 4) := by rw [e_w42_41, aw_up_o _ (by omega)]; exact k_q7
  replace k_q8 : w42_41 q8 = some (aw_ia E 4) := by rw [e_w42_41, aw_up_o _ (by omega)]; exact k_q8
  replace k_q9 : w42_41 q9 = some (aw_ia E 4) := by rw [e_w42_41, aw_up_o _ (by omega)]; exact k_q9
  replace k_q10 : w42_41 q10 = some (aw_ia E 4) := by rw [e_w42_41, aw_up_o _ (by omega)]; exact k_q10
  replace k_q11 : w42_41 q11 = some (aw_ia E 4) := by rw [e_w42_41, aw_up_o _ (by omega)]; exact k_q11
  replace k_q12 : w42_41 q12 = some (aw_ia E 32) := by rw [e_w42_41, aw_up_o _ (by omega)]; exact k_q12
  replace k_q13 : w42_41 q13 = some (aw_ia E 31) := by rw [e_w42_41, aw_up_o _ (by omega)]; exact k_q13
  replace k_q14 : w42_41 q14 = some (aw_ia E 31) := by rw [e_w42_41, aw_up_o _ (by omega)]; exact k_q14
  replace k_q15 : w42_41 q15 = some (aw_ia E 31) := by rw [e_w42_41, aw_up_o _ (by omega)]; exact k_q15
  replace k_q16 : w42_41 q16 = some (aw_ia E 31) := by rw [e_w42_41, aw_up_o _ (by omega)]; exact k_q16
  replace k_q17 : w42_41 q17 = some (aw_ia E 31) := by rw [e_w42_41, aw_up_o _ (by omega)]; exact k_q17
  replace k_q18 : w42_41 q18 = some (aw_ia E 31) := by rw [e_w42_41, aw_up_o _ (by omega)]; exact k_q18
  replace k_q19 : w42_41 q19 = some (aw_ia E 31) := by rw [e_w42_41, aw_up_o _ (by omega)]; exact k_q19
  replace k_q20 : w42_41 q20 = some (aw_ia E 31) := by rw [e_w42_41, aw_up_o _ (by omega)]; exact k_q20
  replace k_q21 : w42_41 q21 = some (aw_ia E 31) := by rw [e_w42_41, aw_up_o _ (by omega)]; exact k_q21
  replace k_a : w42_41 a = some (.inr (11, [ii_v 0, .ref q1, .ref q2, .ref q3, .ref q4, .ref q5, .ref q6, .ref q7, .ref q8, .ref q9, .ref q10, .ref q11, .ref q12, .ref q13, .ref q14, .ref q15, .ref q16, .ref q17, .ref q18, .ref q19, .ref q20, .ref q21, .null, .null, .null, .null, .null, .null, .null, ii_v 0, ii_v 0, ii_v 0, ii_v 0, ii_v 0, ii_v 0, .null, .null, ii_v 0, ii_v 0, ii_v 0, ii_v 0, ii_v 0, ii_v 0, .null, .null, ii_v 0, ii_v 0])) := by rw [e_w42_41]; exact aw_up_s _ _ _
  refine w_aload_n C dX10_init_161 rfl ?_
  refine w_bipush C dX10_init_162 (by decide) ?_
  refine w_newi (N := 31) C rfl (by decide) (by omega) dX10_init_164 ?_
  intro q22 t_q22
  have l_q21_q22 : q21 < q22 := t_q22 _ _ k_q21
  obtain ⟨w43_42, e_w43_42⟩ : ∃ x : Nat → Option va_E, x = aw_up w42_41 q22 (aw_ia E 31) := ⟨_, rfl⟩
  rw [← e_w43_42]
  replace k_a : w43_42 a = some (.inr (11, [ii_v 0, .ref q1, .ref q2, .ref q3, .ref q4, .ref q5, .ref q6, .ref q7, .ref q8, .ref q9, .ref q10, .ref q11, .ref q12, .ref q13, .ref q14, .ref q15, .ref q16, .ref q17, .ref q18, .ref q19, .ref q20, .ref q21, .null, .null, .null, .null, .null, .null, .null, ii_v 0, ii_v 0, ii_v 0, ii_v 0, ii_v 0, ii_v 0, .null, .null, ii_v 0, ii_v 0, ii_v 0, ii_v 0, ii_v 0, ii_v 0, .null, .null, ii_v 0, ii_v 0])) := by rw [e_w43_42, aw_up_o _ (by omega)]; exact k_a
  replace k_q1 : w43_42 q1 = some (aw_ia E 4) := by rw [e_w43_42, aw_up_o _ (by omega)]; exact k_q1
  replace k_q2 : w43_42 q2 = some (aw_ia E 4) := by rw [e_w43_42, aw_up_o _ (by omega)]; exact k_q2
  replace k_q3 : w43_42 q3 = some (aw_ia E 4) := by rw [e_w43_42, aw_up_o _ (by omega)]; exact k_q3
  replace k_q4 : w43_42 q4 = some (aw_ia E 4) := by rw [e_w43_42, aw_up_o _ (by omega)]; exact k_q4
  replace k_q5 : w43_42 q5 = some (aw_ia E 4) := by rw [e_w43_42, aw_up_o _ (by omega)]; exact k_q5
  replace k_q6 : w43_42 q6 = some (aw_ia E 4) := by rw [e_w43_42, aw_up_o _ (by omega)]; exact k_q6
  replace k_q7 : w43_42 q7 = some (aw_ia E 4) := by rw [e_w43_42, aw_up_o _ (by omega)]; exact k_q7
  replace k_q8 : w43_42 q8 = some (aw_ia E 4) := by rw [e_w43_42, aw_up_o _ (by omega)]; exact k_q8
  replace k_q9 : w43_42 q9 = some (aw_ia E 4) := by rw [e_w43_42, aw_up_o _ (by omega)]; exact k_q9
  replace k_q10 : w43_42 q10 = some (aw_ia E 4) := by rw [e_w43_42, aw_up_o _ (by omega)]; exact k_q10
  replace k_q11 : w43_42 q11 = some (aw_ia E 4) := by rw [e_w43_42, aw_up_o _ (by omega)]; exact k_q11
  replace k_q12 : w43_42 q12 = some (aw_ia E 32) := by rw [e_w43_42, aw_up_o _ (by omega)]; exact k_q12
  replace k_q13 : w43_42 q13 = some (aw_ia E 31) := by rw [e_w43_42, aw_up_o _ (by omega)]; exact k_q13
  replace k_q14 : w43_42 q14 = some (aw_ia E 31) := by rw [e_w43_42, aw_up_o _ (by omega)]; exact k_q14
  replace k_q15 : w43_42 q15 = some (aw_ia E 31) := by rw [e_w43_42, aw_up_o _ (by omega)]; exact k_q15
  replace k_q16 : w43_42 q16 = some (aw_ia E 31) := by rw [e_w43_42, aw_up_o _ (by omega)]; exact k_q16
  replace k_q17 : w43_42 q17 = some (aw_ia E 31) := by rw [e_w43_42, aw_up_o _ (by omega)]; exact k_q17
  replace k_q18 : w43_42 q18 = some (aw_ia E 31) := by rw [e_w43_42, aw_up_o _ (by omega)]; exact k_q18
  replace k_q19 : w43_42 q19 = some (aw_ia E 31) := by rw [e_w43_42, aw_up_o _ (by omega)]; exact k_q19
  replace k_q20 : w43_42 q20 = some (aw_ia E 31) := by rw [e_w43_42, aw_up_o _ (by omega)]; exact k_q20
  replace k_q21 : w43_42 q21 = some (aw_ia E 31) := by rw [e_w43_42, aw_up_o _ (by omega)]; exact k_q21
  have k_q22 : w43_42 q22 = some (aw_ia E 31) := by rw [e_w43_42]; exact aw_up_s _ _ _
  refine w_putF (ci := 11) (i := 22) C iw_X10 rfl (by decide) rfl tyX10 tyX10_ok nmX10 rfl hnm rfl fl_X10_73 k_a (Nat.le_of_ble_eq_true rfl) rfl rfl dX10_init_166 ?_
  obtain ⟨w44_43, e_w44_43⟩ : ∃ x : Nat → Option va_E, x = aw_up w43_42 a (.inr (11, [ii_v 0, .ref q1, .ref q2, .ref q3, .ref q4, .ref q5, .ref q6, .ref q7, .ref q8, .ref q9, .ref q10, .ref q11, .ref q12, .ref q13, .ref q14, .ref q15, .ref q16, .ref q17, .ref q18, .ref q19, .ref q20, .ref q21, .null, .null, .null, .null, .null, .null, .null, ii_v 0, ii_v 0, ii_v 0, ii_v 0, ii_v 0, ii_v 0, .null, .null, ii_v 0, ii_v 0, ii_v 0, ii_v 0, ii_v 0, ii_v 0, .null, .null, ii_v 0, ii_v 0].set 22 (.ref q22))) := ⟨_, rfl⟩
  rw [← e_w44_43]
  replace k_q1 : w44_43 q1 = some (aw_ia E 4) := by rw [e_w44_43, aw_up_o _ (by omega)]; exact k_q1
  replace k_q2 : w44_43 q2 = some (aw_ia E 4) := by rw [e_w44_43, aw_up_o _ (by omega)]; exact k_q2
  replace k_q3 : w44_43 q3 = some (aw_ia E 4) := by rw [e_w44_43, aw_up_o _ (by omega)]; exact k_q3
  replace k_q4 : w44_43 q4 = some (aw_ia E 4) := by rw [e_w44_43, aw_up_o _ (by omega)]; exact k_q4
  replace k_q5 : w44_43 q5 = some (aw_ia E 4) := by rw [e_w44_43, aw_up_o _ (by omega)]; exact k_q5
  replace k_q6 : w44_43 q6 = some (aw_ia E 4) := by rw [e_w44_43, aw_up_o _ (by omega)]; exact k_q6
  replace k_q7 : w44_43 q7 = some (aw_ia E 4) := by rw [e_w44_43, aw_up_o _ (by omega)]; exact k_q7
  replace k_q8 : w44_43 q8 = some (aw_ia E 4) := by rw [e_w44_43, aw_up_o _ (by omega)]; exact k_q8
  replace k_q9 : w44_43 q9 = some (aw_ia E 4) := by rw [e_w44_43, aw_up_o _ (by omega)]; exact k_q9
  replace k_q10 : w44_43 q10 = some (aw_ia E 4) := by rw [e_w44_43, aw_up_o _ (by omega)]; exact k_q10
  replace k_q11 : w44_43 q11 = some (aw_ia E 4) := by rw [e_w44_43, aw_up_o _ (by omega)]; exact k_q11
  replace k_q12 : w44_43 q12 = some (aw_ia E 32) := by rw [e_w44_43, aw_up_o _ (by omega)]; exact k_q12
  replace k_q13 : w44_43 q13 = some (aw_ia E 31) := by rw [e_w44_43, aw_up_o _ (by omega)]; exact k_q13
  replace k_q14 : w44_43 q14 = some (aw_ia E 31) := by rw [e_w44_43, aw_up_o _ (by omega)]; exact k_q14
  replace k_q15 : w44_43 q15 = some (aw_ia E 31) := by rw [e_w44_43, aw_up_o _ (by omega)]; exact k_q15
  replace k_q16 : w44_43 q16 = some (aw_ia E 31) := by rw [e_w44_43, aw_up_o _ (by omega)]; exact k_q16
  replace k_q17 : w44_43 q17 = some (aw_ia E 31) := by rw [e_w44_43, aw_up_o _ (by omega)]; exact k_q17
  replace k_q18 : w44_43 q18 = some (aw_ia E 31) := by rw [e_w44_43, aw_up_o _ (by omega)]; exact k_q18
  replace k_q19 : w44_43 q19 = some (aw_ia E 31) := by rw [e_w44_43, aw_up_o _ (by omega)]; exact k_q19
  replace k_q20 : w44_43 q20 = some (aw_ia E 31) := by rw [e_w44_43, aw_up_o _ (by omega)]; exact k_q20
  replace k_q21 : w44_43 q21 = some (aw_ia E 31) := by rw [e_w44_43, aw_up_o _ (by omega)]; exact k_q21
  replace k_q22 : w44_43 q22 = some (aw_ia E 31) := by rw [e_w44_43, aw_up_o _ (by omega)]; exact k_q22
  replace k_a : w44_43 a = some (.inr (11, [ii_v 0, .ref q1, .ref q2, .ref q3, .ref q4, .ref q5, .ref q6, .ref q7, .ref q8, .ref q9, .ref q10, .ref q11, .ref q12, .ref q13, .ref q14, .ref q15, .ref q16, .ref q17, .ref q18, .ref q19, .ref q20, .ref q21, .ref q22, .null, .null, .null, .null, .null, .null, ii_v 0, ii_v 0, ii_v 0, ii_v 0, ii_v 0, ii_v 0, .null, .null, ii_v 0, ii_v 0, ii_v 0, ii_v 0, ii_v 0, ii_v 0, .null, .null, ii_v 0, ii_v 0])) := by rw [e_w44_43]; exact aw_up_s _ _ _
  refine w_aload_n C dX10_init_169 rfl ?_
  refine w_bipush C dX10_init_170 (by decide) ?_
  refine w_newc (N := 31) C rfl (by decide) (by omega) dX10_init_172 ?_
  intro q23 t_q23
  have l_q22_q23 : q22 < q23 := t_q23 _ _ k_q22
  obtain ⟨w45_44, e_w45_44⟩ : ∃ x : Nat → Option va_E, x = aw_up w44_43 q23 (aw_ca E 31) := ⟨_, rfl⟩
  rw [← e_w45_44]
  replace k_a : w45_44 a = some (.inr (11, [ii_v 0, .ref q1, .ref q2, .ref q3, .ref q4, .ref q5, .ref q6, .ref q7, .ref q8, .ref q9, .ref q10, .ref q11, .ref q12, .ref q13, .ref q14, .ref q15, .ref q16, .ref q17, .ref q18, .ref q19, .ref q20, .ref q21, .ref q22, .null, .null, .null, .null, .null, .null, ii_v 0, ii_v 0, ii_v 0, ii_v 0, ii_v 0, ii_v 0, .null, .null, ii_v 0, ii_v 0, ii_v 0, ii_v 0, ii_v 0, ii_v 0, .null, .null, ii_v 0, ii_v 0])) := by rw [e_w45_44, aw_up_o _ (by omega)]; exact k_a
  replace k_q1 : w45_44 q1 = some (aw_ia E 4) := by rw [e_w45_44, aw_up_o _ (by omega)]; exact k_q1
  replace k_q2 : w45_44 q2 = some (aw_ia E 4) := by rw [e_w45_44, aw_up_o _ (by omega)]; exact k_q2
  replace k_q3 : w45_44 q3 = some (aw_ia E 4) := by rw [e_w45_44, aw_up_o _ (by omega)]; exact k_q3
  replace k_q4 : w45_44 q4 = some (aw_ia E 4) := by rw [e_w45_44, aw_up_o _ (by omega)]; exact k_q4
  replace k_q5 : w45_44 q5 = some (aw_ia E 4) := by rw [e_w45_44, aw_up_o _ (by omega)]; exact k_q5
  replace k_q6 : w45_44 q6 = some (aw_ia E 4) := by rw [e_w45_44, aw_up_o _ (by omega)]; exact k_q6
  replace k_q7 : w45_44 q7 = some (aw_ia E 4) := by rw [e_w45_44, aw_up_o _ (by omega)]; exact k_q7
  replace k_q8 : w45_44 q8 = some (aw_ia E 4) := by rw [e_w45_44, aw_up_o _ (by omega)]; exact k_q8
  replace k_q9 : w45_44 q9 = some (aw_ia E 4) := by rw [e_w45_44, aw_up_o _ (by omega)]; exact k_q9
  replace k_q10 : w45_44 q10 = some (aw_ia E 4) := by rw [e_w45_44, aw_up_o _ (by omega)]; exact k_q10
  replace k_q11 : w45_44 q11 = some (aw_ia E 4) := by rw [e_w45_44, aw_up_o _ (by omega)]; exact k_q11
  replace k_q12 : w45_44 q12 = some (aw_ia E 32) := by rw [e_w45_44, aw_up_o _ (by omega)]; exact k_q12
  replace k_q13 : w45_44 q13 = some (aw_ia E 31) := by rw [e_w45_44, aw_up_o _ (by omega)]; exact k_q13
  replace k_q14 : w45_44 q14 = some (aw_ia E 31) := by rw [e_w45_44, aw_up_o _ (by omega)]; exact k_q14
  replace k_q15 : w45_44 q15 = some (aw_ia E 31) := by rw [e_w45_44, aw_up_o _ (by omega)]; exact k_q15
  replace k_q16 : w45_44 q16 = some (aw_ia E 31) := by rw [e_w45_44, aw_up_o _ (by omega)]; exact k_q16
  replace k_q17 : w45_44 q17 = some (aw_ia E 31) := by rw [e_w45_44, aw_up_o _ (by omega)]; exact k_q17
  replace k_q18 : w45_44 q18 = some (aw_ia E 31) := by rw [e_w45_44, aw_up_o _ (by omega)]; exact k_q18
  replace k_q19 : w45_44 q19 = some (aw_ia E 31) := by rw [e_w45_44, aw_up_o _ (by omega)]; exact k_q19
  replace k_q20 : w45_44 q20 = some (aw_ia E 31) := by rw [e_w45_44, aw_up_o _ (by omega)]; exact k_q20
  replace k_q21 : w45_44 q21 = some (aw_ia E 31) := by rw [e_w45_44, aw_up_o _ (by omega)]; exact k_q21
  replace k_q22 : w45_44 q22 = some (aw_ia E 31) := by rw [e_w45_44, aw_up_o _ (by omega)]; exact k_q22
  have k_q23 : w45_44 q23 = some (aw_ca E 31) := by rw [e_w45_44]; exact aw_up_s _ _ _
  refine w_putF (ci := 11) (i := 23) C iw_X10 rfl (by decide) rfl tyX10 tyX10_ok nmX10 rfl hnm rfl fl_X10_76 k_a (Nat.le_of_ble_eq_true rfl) rfl rfl dX10_init_174 ?_
  obtain ⟨w46_45, e_w46_45⟩ : ∃ x : Nat → Option va_E, x = aw_up w45_44 a (.inr (11, [ii_v 0, .ref q1, .ref q2, .ref q3, .ref q4, .ref q5, .ref q6, .ref q7, .ref q8, .ref q9, .ref q10, .ref q11, .ref q12, .ref q13, .ref q14, .ref q15, .ref q16, .ref q17, .ref q18, .ref q19, .ref q20, .ref q21, .ref q22, .null, .null, .null, .null, .null, .null, ii_v 0, ii_v 0, ii_v 0, ii_v 0, ii_v 0, ii_v 0, .null, .null, ii_v 0, ii_v 0, ii_v 0, ii_v 0, ii_v 0, ii_v 0, .null, .null, ii_v 0, ii_v 0].set 23 (.ref q23))) := ⟨_, rfl⟩
  rw [← e_w46_45]
  replace k_q1 : w46_45 q1 = some (aw_ia E 4) := by rw [e_w46_45, aw_up_o _ (by omega)]; exact k_q1
  replace k_q2 : w46_45 q2 = some (aw_ia E 4) := by rw [e_w46_45, aw_up_o _ (by omega)]; exact k_q2
  replace k_q3 : w46_45 q3 = some (aw_ia E 4) := by rw [e_w46_45, aw_up_o _ (by omega)]; exact k_q3
  replace k_q4 : w46_45 q4 = some (aw_ia E 4) := by rw [e_w46_45, aw_up_o _ (by omega)]; exact k_q4
  replace k_q5 : w46_45 q5 = some (aw_ia E 4) := by rw [e_w46_45, aw_up_o _ (by omega)]; exact k_q5
  replace k_q6 : w46_45 q6 = some (aw_ia E 4) := by rw [e_w46_45, aw_up_o _ (by omega)]; exact k_q6
  replace k_q7 : w46_45 q7 = some (aw_ia E 4) := by rw [e_w46_45, aw_up_o _ (by omega)]; exact k_q7
  replace k_q8 : w46_45 q8 = some (aw_ia E 4) := by rw [e_w46_45, aw_up_o _ (by omega)]; exact k_q8
  replace k_q9 : w46_45 q9 = some (aw_ia E 4) := by rw [e_w46_45, aw_up_o _ (by omega)]; exact k_q9
  replace k_q10 : w46_45 q10 = some (aw_ia E 4) := by rw [e_w46_45, aw_up_o _ (by omega)]; exact k_q10
  replace k_q11 : w46_45 q11 = some (aw_ia E 4) := by rw [e_w46_45, aw_up_o _ (by omega)]; exact k_q11
  replace k_q12 : w46_45 q12 = some (aw_ia E 32) := by rw [e_w46_45, aw_up_o _ (by omega)]; exact k_q12
  replace k_q13 : w46_45 q13 = some (aw_ia E 31) := by rw [e_w46_45, aw_up_o _ (by omega)]; exact k_q13
  replace k_q14 : w46_45 q14 = some (aw_ia E 31) := by rw [e_w46_45, aw_up_o _ (by omega)]; exact k_q14
  replace k_q15 : w46_45 q15 = some (aw_ia E 31) := by rw [e_w46_45, aw_up_o _ (by omega)]; exact k_q15
  replace k_q16 : w46_45 q16 = some (aw_ia E 31) := by rw [e_w46_45, aw_up_o _ (by omega)]; exact k_q16
  replace k_q17 : w46_45 q17 = some (aw_ia E 31) := by rw [e_w46_45, aw_up_o _ (by omega)]; exact k_q17
  replace k_q18 : w46_45 q18 = some (aw_ia E 31) := by rw [e_w46_45, aw_up_o _ (by omega)]; exact k_q18
  replace k_q19 : w46_45 q19 = some (aw_ia E 31) := by rw [e_w46_45, aw_up_o _ (by omega)]; exact k_q19
  replace k_q20 : w46_45 q20 = some (aw_ia E 31) := by rw [e_w46_45, aw_up_o _ (by omega)]; exact k_q20
  replace k_q21 : w46_45 q21 = some (aw_ia E 31) := by rw [e_w46_45, aw_up_o _ (by omega)]; exact k_q21
  replace k_q22 : w46_45 q22 = some (aw_ia E 31) := by rw [e_w46_45, aw_up_o _ (by omega)]; exact k_q22
  replace k_q23 : w46_45 q23 = some (aw_ca E 31) := by rw [e_w46_45, aw_up_o _ (by omega)]; exact k_q23
  replace k_a : w46_45 a = some (.inr (11, [ii_v 0, .ref q1, .ref q2, .ref q3, .ref q4, .ref q5, .ref q6, .ref q7, .ref q8, .ref q9, .ref q10, .ref q11, .ref q12, .ref q13, .ref q14, .ref q15, .ref q16, .ref q17, .ref q18, .ref q19, .ref q20, .ref q21, .ref q22, .ref q23, .null, .null, .null, .null, .null, ii_v 0, ii_v 0, ii_v 0, ii_v 0, ii_v 0, ii_v 0, .null, .null, ii_v 0, ii_v 0, ii_v 0, ii_v 0, ii_v 0, ii_v 0, .null, .null, ii_v 0, ii_v 0])) := by rw [e_w46_45]; exact aw_up_s _ _ _
  refine w_aload_n C dX10_init_177 rfl ?_
  refine w_bipush C dX10_init_178 (by decide) ?_
  refine w_newc (N := 31) C rfl (by decide) (by omega) dX10_init_180 ?_
  intro q24 t_q24
  have l_q23_q24 : q23 < q24 := t_q24 _ _ k_q23
  obtain ⟨w47_46, e_w47_46⟩ : ∃ x : Nat → Option va_E, x = aw_up w46_45 q24 (aw_ca E 31) := ⟨_, rfl⟩
  rw [← e_w47_46]
  replace k_a : w47_46 a = some (.inr (11, [ii_v 0, .ref q1, .ref q2, .ref q3, .ref q4, .ref q5, .ref q6, .ref q7, .ref q8, .ref q9, .ref q10, .ref q11, .ref q12, .ref q13, .ref q14, .ref q15, .ref q16, .ref q17, .ref q18, .ref q19, .ref q20, .ref q21, .ref q22, .ref q23, .null, .null, .null, .null, .null, ii_v 0, ii_v 0, ii_v 0, ii_v 0, ii_v 0, ii_v 0, .null, .null, ii_v 0, ii_v 0, ii_v 0, ii_v 0, ii_v 0, ii_v 0, .null, .null, ii_v 0, ii_v 0])) := by rw [e_w47_46, aw_up_o _ (by omega)]; exact k_a
  replace k_q1 : w47_46 q1 = some (aw_ia E 4) := by rw [e_w47_46, aw_up_o _ (by omega)]; exact k_q1
  replace k_q2 : w47_46 q2 = some (aw_ia E 4) := by rw [e_w47_46, aw_up_o _ (by omega)]; exact k_q2
  replace k_q3 : w47_46 q3 = some (aw_ia E 4) := by rw [e_w47_46, aw_up_o _ (by omega)]; exact k_q3
  replace k_q4 : w47_46 q4 = some (aw_ia E 4) := by rw [e_w47_46, aw_up_o _ (by omega)]; exact k_q4
  replace k_q5 : w47_46 q5 = some (aw_ia E 4) := by rw [e_w47_46, aw_up_o _ (by omega)]; exact k_q5
  replace k_q6 : w47_46 q6 = some (aw_ia E 4) := by rw [e_w47_46, aw_up_o _ (by omega)]; exact k_q6
  replace k_q7 : w47_46 q7 = some (aw_ia E 4) := by rw [e_w47_46, aw_up_o _ (by omega)]; exact k_q7
  replace k_q8 : w47_46 q8 = some (aw_ia E 4) := by rw [e_w47_46, aw_up_o _ (by omega)]; exact k_q8
  replace k_q9 : w47_46 q9 = some (aw_ia E 4) := by rw [e_w47_46, aw_up_o _ (by omega)]; exact k_q9
  replace k_q10 : w47_46 q10 = some (aw_ia E 4) := by rw [e_w47_46, aw_up_o _ (by omega)]; exact k_q10
  replace k_q11 : w47_46 q11 = some (aw_ia E 4) := by rw [e_w47_46, aw_up_o _ (by omega)]; exact k_q11
  replace k_q12 : w47_46 q12 = some (aw_ia E 32) := by rw [e_w47_46, aw_up_o _ (by omega)]; exact k_q12
  replace k_q13 : w47_46 q13 = some (aw_ia E 31) := by rw [e_w47_46, aw_up_o _ (by omega)]; exact k_q13
  replace k_q14 : w47_46 q14 = some (aw_ia E 31) := by rw [e_w47_46, aw_up_o _ (by omega)]; exact k_q14
  replace k_q15 : w47_46 q15 = some (aw_ia E 31) := by rw [e_w47_46, aw_up_o _ (by omega)]; exact k_q15
  replace k_q16 : w47_46 q16 = some (aw_ia E 31) := by rw [e_w47_46, aw_up_o _ (by omega)]; exact k_q16
  replace k_q17 : w47_46 q17 = some (aw_ia E 31) := by rw [e_w47_46, aw_up_o _ (by omega)]; exact k_q17
  replace k_q18 : w47_46 q18 = some (aw_ia E 31) := by rw [e_w47_46, aw_up_o _ (by omega)]; exact k_q18
  replace k_q19 : w47_46 q19 = some (aw_ia E 31) := by rw [e_w47_46, aw_up_o _ (by omega)]; exact k_q19
  replace k_q20 : w47_46 q20 = some (aw_ia E 31) := by rw [e_w47_46, aw_up_o _ (by omega)]; exact k_q20
  replace k_q21 : w47_46 q21 = some (aw_ia E 31) := by rw [e_w47_46, aw_up_o _ (by omega)]; exact k_q21
  replace k_q22 : w47_46 q22 = some (aw_ia E 31) := by rw [e_w47_46, aw_up_o _ (by omega)]; exact k_q22
  replace k_q23 : w47_46 q23 = some (aw_ca E 31) := by rw [e_w47_46, aw_up_o _ (by omega)]; exact k_q23
  have k_q24 : w47_46 q24 = some (aw_ca E 31) := by rw [e_w47_46]; exact aw_up_s _ _ _
  refine w_putF (ci := 11) (i := 24) C iw_X10 rfl (by decide) rfl tyX10 tyX10_ok nmX10 rfl hnm rfl fl_X10_80 k_a (Nat.le_of_ble_eq_true rfl) rfl rfl dX10_init_182 ?_
  obtain ⟨w48_47, e_w48_47⟩ : ∃ x : Nat → Option va_E, x = aw_up w47_46 a (.inr (11, [ii_v 0, .ref q1, .ref q2, .ref q3, .ref q4, .ref q5, .ref q6, .ref q7, .ref q8, .ref q9, .ref q10, .ref q11, .ref q12, .ref q13, .ref q14, .ref q15, .ref q16, .ref q17, .ref q18, .ref q19, .ref q20, .ref q21, .ref q22, .ref q23, .null, .null, .null, .null, .null, ii_v 0, ii_v 0, ii_v 0, ii_v 0, ii_v 0, ii_v 0, .null, .null, ii_v 0, ii_v 0, ii_v 0, ii_v 0, ii_v 0, ii_v 0, .null, .null, ii_v 0, ii_v 0].set 24 (.ref q24))) := ⟨_, rfl⟩
  rw [← e_w48_47]
  replace k_q1 : w48_47 q1 = some (aw_ia E 4) := by rw [e_w48_47, aw_up_o _ (by omega)]; exact k_q1
  replace k_q2 : w48_47 q2 = some (aw_ia E 4) := by rw [e_w48_47, aw_up_o _ (by omega)]; exact k_q2
  replace k_q3 : w48_47 q3 = some (aw_ia E 4) := by rw [e_w48_47, aw_up_o _ (by omega)]; exact k_q3
  replace k_q4 : w48_47 q4 = some (aw_ia E 4) := by rw [e_w48_47, aw_up_o _ (by omega)]; exact k_q4
  replace k_q5 : w48_47 q5 = some (aw_ia E 4) := by rw [e_w48_47, aw_up_o _ (by omega)]; exact k_q5
  replace k_q6 : w48_47 q6 = some (aw_ia E 4) := by rw [e_w48_47, aw_up_o _ (by omega)]; exact k_q6
  replace k_q7 : w48_47 q7 = some (aw_ia E 4) := by rw [e_w48_47, aw_up_o _ (by omega)]; exact k_q7
  replace k_q8 : w48_47 q8 = some (aw_ia E 4) := by rw [e_w48_47, aw_up_o _ (by omega)]; exact k_q8
  replace k_q9 : w48_47 q9 = some (aw_ia E 4) := by rw [e_w48_47, aw_up_o _ (by omega)]; exact k_q9
  replace k_q10 : w48_47 q10 = some (aw_ia E 4) := by rw [e_w48_47, aw_up_o _ (by omega)]; exact k_q10
  replace k_q11 : w48_47 q11 = some (aw_ia E 4) := by rw [e_w48_47, aw_up_o _ (by omega)]; exact k_q11
  replace k_q12 : w48_47 q12 = some (aw_ia E 32) := by rw [e_w48_47, aw_up_o _ (by omega)]; exact k_q12
  replace k_q13 : w48_47 q13 = some (aw_ia E 31) := by rw [e_w48_47, aw_up_o _ (by omega)]; exact k_q13
  replace k_q14 : w48_47 q14 = some (aw_ia E 31) := by rw [e_w48_47, aw_up_o _ (by omega)]; exact k_q14
  replace k_q15 : w48_47 q15 = some (aw_ia E 31) := by rw [e_w48_47, aw_up_o _ (by omega)]; exact k_q15
  replace k_q16 : w48_47 q16 = some (aw_ia E 31) := by rw [e_w48_47, aw_up_o _ (by omega)]; exact k_q16
  replace k_q17 : w48_47 q17 = some (aw_ia E 31) := by rw [e_w48_47, aw_up_o _ (by omega)]; exact k_q17
  replace k_q18 : w48_47 q18 = some (aw_ia E 31) := by rw [e_w48_47, aw_up_o _ (by omega)]; exact k_q18
  replace k_q19 : w48_47 q19 = some (aw_ia E 31) := by rw [e_w48_47, aw_up_o _ (by omega)]; exact k_q19
  replace k_q20 : w48_47 q20 = some (aw_ia E 31) := by rw [e_w48_47, aw_up_o _ (by omega)]; exact k_q20
  replace k_q21 : w48_47 q21 = some (aw_ia E 31) := by rw [e_w48_47, aw_up_o _ (by omega)]; exact k_q21
  replace k_q22 : w48_47 q22 = some (aw_ia E 31) := by rw [e_w48_47, aw_up_o _ (by omega)]; exact k_q22
  replace k_q23 : w48_47 q23 = some (aw_ca E 31) := by rw [e_w48_47, aw_up_o _ (by omega)]; exact k_q23
  replace k_q24 : w48_47 q24 = some (aw_ca E 31) := by rw [e_w48_47, aw_up_o _ (by omega)]; exact k_q24
  replace k_a : w48_47 a = some (.inr (11, [ii_v 0, .ref q1, .ref q2, .ref q3, .ref q4, .ref q5, .ref q6, .ref q7, .ref q8, .ref q9, .ref q10, .ref q11, .ref q12, .ref q13, .ref q14, .ref q15, .ref q16, .ref q17, .ref q18, .ref q19, .ref q20, .ref q21, .ref q22, .ref q23, .ref q24, .null, .null, .null, .null, ii_v 0, ii_v 0, ii_v 0, ii_v 0, ii_v 0, ii_v 0, .null, .null, ii_v 0, ii_v 0, ii_v 0, ii_v 0, ii_v 0, ii_v 0, .null, .null, ii_v 0, ii_v 0])) := by rw [e_w48_47]; exact aw_up_s _ _ _
  refine w_aload_n C dX10_init_185 rfl ?_
  refine w_bipush C dX10_init_186 (by decide) ?_
  refine w_newi (N := 60) C rfl (by decide) (by omega) dX10_init_188 ?_
  intro q25 t_q25
  have l_q24_q25 : q24 < q25 := t_q25 _ _ k_q24
  obtain ⟨w49_48, e_w49_48⟩ : ∃ x : Nat → Option va_E, x = aw_up w48_47 q25 (aw_ia E 60) := ⟨_, rfl⟩
  rw [← e_w49_48]
  replace k_a : w49_48 a = some (.inr (11, [ii_v 0, .ref q1, .ref q2, .ref q3, .ref q4, .ref q5, .ref q6, .ref q7, .ref q8, .ref q9, .ref q10, .ref q11, .ref q12, .ref q13, .ref q14, .ref q15, .ref q16, .ref q17, .ref q18, .ref q19, .ref q20, .ref q21, .ref q22, .ref q23, .ref q24, .null, .null, .null, .null, ii_v 0, ii_v 0, ii_v 0, ii_v 0, ii_v 0, ii_v 0, .null, .null, ii_v 0, ii_v 0, ii_v 0, ii_v 0, ii_v 0, ii_v 0, .null, .null, ii_v 0, ii_v 0])) := by rw [e_w49_48, aw_up_o _ (by omega)]; exact k_a
  replace k_q1 : w49_48 q1 = some (aw_ia E 4) := by rw [e_w49_48, aw_up_o _ (by omega)]; exact k_q1
  replace k_q2 : w49_48 q2 = some (aw_ia E 4) := by rw [e_w49_48, aw_up_o _ (by omega)]; exact k_q2
  replace k_q3 : w49_48 q3 = some (aw_ia E 4) := by rw [e_w49_48, aw_up_o _ (by omega)]; exact k_q3
  replace k_q4 : w49_48 q4 = some (aw_ia E 4) := by rw [e_w49_48, aw_up_o _ (by omega)]; exact k_q4
  replace k_q5 : w49_48 q5 = some (aw_ia E 4) := by rw [e_w49_48, aw_up_o _ (by omega)]; exact k_q5
  replace k_q6 : w49_48 q6 = some (aw_ia E 4) := by rw [e_w49_48, aw_up_o _ (by omega)]; exact k_q6
  replace k_q7 : w49_48 q7 = some (aw_ia E 4) := by rw [e_w49_48, aw_up_o _ (by omega)]; exact k_q7
  replace k_q8 : w49_48 q8 = some (aw_ia E 4) := by rw [e_w49_48, aw_up_o _ (by omega)]; exact k_q8
  replace k_q9 : w49_48 q9 = some (aw_ia E 4) := by rw [e_w49_48, aw_up_o _ (by omega)]; exact k_q9
  replace k_q10 : w49_48 q10 = some (aw_ia E 4) := by rw [e_w49_48, aw_up_o _ (by omega)]; exact k_q10
  replace k_q11 : w49_48 q11 = some (aw_ia E 4) := by rw [e_w49_48, aw_up_o _ (by omega)]; exact k_q11
  replace k_q12 : w49_48 q12 = some (aw_ia E 32) := by rw [e_w49_48, aw_up_o _ (by omega)]; exact k_q12
  replace k_q13 : w49_48 q13 = some (aw_ia E 31) := by rw [e_w49_48, aw_up_o _ (by omega)]; exact k_q13
  replace k_q14 : w49_48 q14 = some (aw_ia E 31) := by rw [e_w49_48, aw_up_o _ (by omega)]; exact k_q14
  replace k_q15 : w49_48 q15 = some (aw_ia E 31) := by rw [e_w49_48, aw_up_o _ (by omega)]; exact k_q15
  replace k_q16 : w49_48 q16 = some (aw_ia E 31) := by rw [e_w49_48, aw_up_o _ (by omega)]; exact k_q16
  replace k_q17 : w49_48 q17 = some (aw_ia E 31) := by rw [e_w49_48, aw_up_o _ (by omega)]; exact k_q17
  replace k_q18 : w49_48 q18 = some (aw_ia E 31) := by rw [e_w49_48, aw_up_o _ (by omega)]; exact k_q18
  replace k_q19 : w49_48 q19 = some (aw_ia E 31) := by rw [e_w49_48, aw_up_o _ (by omega)]; exact k_q19
  replace k_q20 : w49_48 q20 = some (aw_ia E 31) := by rw [e_w49_48, aw_up_o _ (by omega)]; exact k_q20
  replace k_q21 : w49_48 q21 = some (aw_ia E 31) := by rw [e_w49_48, aw_up_o _ (by omega)]; exact k_q21
  replace k_q22 : w49_48 q22 = some (aw_ia E 31) := by rw [e_w49_48, aw_up_o _ (by omega)]; exact k_q22
  replace k_q23 : w49_48 q23 = some (aw_ca E 31) := by rw [e_w49_48, aw_up_o _ (by omega)]; exact k_q23
  replace k_q24 : w49_48 q24 = some (aw_ca E 31) := by rw [e_w49_48, aw_up_o _ (by omega)]; exact k_q24
  have k_q25 : w49_48 q25 = some (aw_ia E 60) := by rw [e_w49_48]; exact aw_up_s _ _ _
  refine w_putF (ci := 11) (i := 25) C iw_X10 rfl (by decide) rfl tyX10 tyX10_ok nmX10 rfl hnm rfl fl_X10_83 k_a (Nat.le_of_ble_eq_true rfl) rfl rfl dX10_init_190 ?_
  obtain ⟨w50_49, e_w50_49⟩ : ∃ x : Nat → Option va_E, x = aw_up w49_48 a (.inr (11, [ii_v 0, .ref q1, .ref q2, .ref q3, .ref q4, .ref q5, .ref q6, .ref q7, .ref q8, .ref q9, .ref q10, .ref q11, .ref q12, .ref q13, .ref q14, .ref q15, .ref q16, .ref q17, .ref q18, .ref q19, .ref q20, .ref q21, .ref q22, .ref q23, .ref q24, .null, .null, .null, .null, ii_v 0, ii_v 0, ii_v 0, ii_v 0, ii_v 0, ii_v 0, .null, .null, ii_v 0, ii_v 0, ii_v 0, ii_v 0, ii_v 0, ii_v 0, .null, .null, ii_v 0, ii_v 0].set 25 (.ref q25))) := ⟨_, rfl⟩
  rw [← e_w50_49]
  replace k_q1 : w50_49 q1 = some (aw_ia E 4) := by rw [e_w50_49, aw_up_o _ (by omega)]; exact k_q1
  replace k_q2 : w50_49 q2 = some (aw_ia E 4) := by rw [e_w50_49, aw_up_o _ (by omega)]; exact k_q2
  replace k_q3 : w50_49 q3 = some (aw_ia E 4) := by rw [e_w50_49, aw_up_o _ (by omega)]; exact k_q3
  replace k_q4 : w50_49 q4 = some (aw_ia E 4) := by rw [e_w50_49, aw_up_o _ (by omega)]; exact k_q4
  replace k_q5 : w50_49 q5 = some (aw_ia E 4) := by rw [e_w50_49, aw_up_o _ (by omega)]; exact k_q5
  replace k_q6 : w50_49 q6 = some (aw_ia E 4) := by rw [e_w50_49, aw_up_o _ (by omega)]; exact k_q6
  replace k_q7 : w50_49 q7 = some (aw_ia E 4) := by rw [e_w50_49, aw_up_o _ (by omega)]; exact k_q7
  replace k_q8 : w50_49 q8 = some (aw_ia E 4) := by rw [e_w50_49, aw_up_o _ (by omega)]; exact k_q8
  replace k_q9 : w50_49 q9 = some (aw_ia E 4) := by rw [e_w50_49, aw_up_o _ (by omega)]; exact k_q9
  replace k_q10 : w50_49 q10 = some (aw_ia E 4) := by rw [e_w50_49, aw_up_o _ (by omega)]; exact k_q10
  replace k_q11 : w50_49 q11 = some (aw_ia E 4) := by rw [e_w50_49, aw_up_o _ (by omega)]; exact k_q11
  replace k_q12 : w50_49 q12 = some (aw_ia E 32) := by rw [e_w50_49, aw_up_o _ (by omega)]; exact k_q12
  replace k_q13 : w50_49 q13 = some (aw_ia E 31) := by rw [e_w50_49, aw_up_o _ (by omega)]; exact k_q13
  replace k_q14 : w50_49 q14 = some (aw_ia E 31) := by rw [e_w50_49, aw_up_o _ (by omega)]; exact k_q14
  replace k_q15 : w50_49 q15 = some (aw_ia E 31) := by rw [e_w50_49, aw_up_o _ (by omega)]; exact k_q15
  replace k_q16 : w50_49 q16 = some (aw_ia E 31) := by rw [e_w50_49, aw_up_o _ (by omega)]; exact k_q16
  replace k_q17 : w50_49 q17 = some (aw_ia E 31) := by rw [e_w50_49, aw_up_o _ (by omega)]; exact k_q17
  replace k_q18 : w50_49 q18 = some (aw_ia E 31) := by rw [e_w50_49, aw_up_o _ (by omega)]; exact k_q18
  replace k_q19 : w50_49 q19 = some (aw_ia E 31) := by rw [e_w50_49, aw_up_o _ (by omega)]; exact k_q19
  replace k_q20 : w50_49 q20 = some (aw_ia E 31) := by rw [e_w50_49, aw_up_o _ (by omega)]; exact k_q20
  replace k_q21 : w50_49 q21 = some (aw_ia E 31) := by rw [e_w50_49, aw_up_o _ (by omega)]; exact k_q21
  replace k_q22 : w50_49 q22 = some (aw_ia E 31) := by rw [e_w50_49, aw_up_o _ (by omega)]; exact k_q22
  replace k_q23 : w50_49 q23 = some (aw_ca E 31) := by rw [e_w50_49, aw_up_o _ (by omega)]; exact k_q23
  replace k_q24 : w50_49 q24 = some (aw_ca E 31) := by rw [e_w50_49, aw_up_o _ (by omega)]; exact k_q24
  replace k_q25 : w50_49 q25 = some (aw_ia E 60) := by rw [e_w50_49, aw_up_o _ (by omega)]; exact k_q25
  replace k_a : w50_49 a = some (.inr (11, [ii_v 0, .ref q1, .ref q2, .ref q3, .ref q4, .ref q5, .ref q6, .ref q7, .ref q8, .ref q9, .ref q10, .ref q11, .ref q12, .ref q13, .ref q14, .ref q15, .ref q16, .ref q17, .ref q18, .ref q19, .ref q20, .ref q21, .ref q22, .ref q23, .ref q24, .ref q25, .null, .null, .null, ii_v 0, ii_v 0, ii_v 0, ii_v 0, ii_v 0, ii_v 0, .null, .null, ii_v 0, ii_v 0, ii_v 0, ii_v 0, ii_v 0, ii_v 0, .null, .null, ii_v 0, ii_v 0])) := by rw [e_w50_49]; exact aw_up_s _ _ _
  refine w_aload_n C dX10_init_193 rfl ?_
  refine w_bipush C dX10_init_194 (by decide) ?_
  refine w_newi (N := 60) C rfl (by decide) (by omega) dX10_init_196 ?_
  intro q26 t_q26
  have l_q25_q26 : q25 < q26 := t_q26 _ _ k_q25
  obtain ⟨w51_50, e_w51_50⟩ : ∃ x : Nat → Option va_E, x = aw_up w50_49 q26 (aw_ia E 60) := ⟨_, rfl⟩
  rw [← e_w51_50]
  replace k_a : w51_50 a = some (.inr (11, [ii_v 0, .ref q1, .ref q2, .ref q3, .ref q4, .ref q5, .ref q6, .ref q7, .ref q8, .ref q9, .ref q10, .ref q11, .ref q12, .ref q13, .ref q14, .ref q15, .ref q16, .ref q17, .ref q18, .ref q19, .ref q20, .ref q21, .ref q22, .ref q23, .ref q24, .ref q25, .null, .null, .null, ii_v 0, ii_v 0, ii_v 0, ii_v 0, ii_v 0, ii_v 0, .null, .null, ii_v 0, ii_v 0, ii_v 0, ii_v 0, ii_v 0, ii_v 0, .null, .null, ii_v 0, ii_v 0])) := by rw [e_w51_50, aw_up_o _ (by omega)]; exact k_a
  replace k_q1 : w51_50 q1 = some (aw_ia E 4) := by rw [e_w51_50, aw_up_o _ (by omega)]; exact k_q1
  replace k_q2 : w51_50 q2 = some (aw_ia E 4) := by rw [e_w51_50, aw_up_o _ (by omega)]; exact k_q2
  replace k_q3 : w51_50 q3 = some (aw_ia E 4) := by rw [e_w51_50, aw_up_o _ (by omega)]; exact k_q3
  replace k_q4 : w51_50 q4 = some (aw_ia E 4) := by rw [e_w51_50, aw_up_o _ (by omega)]; exact k_q4
  replace k_q5 : w51_50 q5 = some (aw_ia E 4) := by rw [e_w51_50, aw_up_o _ (by omega)]; exact k_q5
  replace k_q6 : w51_50 q6 = some (aw_ia E 4) := by rw [e_w51_50, aw_up_o _ (by omega)]; exact k_q6
  replace k_q7 : w51_50 q7 = some (aw_ia E 4) := by rw [e_w51_50, aw_up_o _ (by omega)]; exact k_q7
  replace k_q8 : w51_50 q8 = some (aw_ia E 4) := by rw [e_w51_50, aw_up_o _ (by omega)]; exact k_q8
  replace k_q9 : w51_50 q9 = some (aw_ia E 4) := by rw [e_w51_50, aw_up_o _ (by omega)]; exact k_q9
  replace k_q10 : w51_50 q10 = some (aw_ia E 4) := by rw [e_w51_50, aw_up_o _ (by omega)]; exact k_q10
  replace k_q11 : w51_50 q11 = some (aw_ia E 4) := by rw [e_w51_50, aw_up_o _ (by omega)]; exact k_q11
  replace k_q12 : w51_50 q12 = some (aw_ia E 32) := by rw [e_w51_50, aw_up_o _ (by omega)]; exact k_q12
  replace k_q13 : w51_50 q13 = some (aw_ia E 31) := by rw [e_w51_50, aw_up_o _ (by omega)]; exact k_q13
  replace k_q14 : w51_50 q14 = some (aw_ia E 31) := by rw [e_w51_50, aw_up_o _ (by omega)]; exact k_q14
  replace k_q15 : w51_50 q15 = some (aw_ia E 31) := by rw [e_w51_50, aw_up_o _ (by omega)]; exact k_q15
  replace k_q16 : w51_50 q16 = some (aw_ia E 31) := by rw [e_w51_50, aw_up_o _ (by omega)]; exact k_q16
  replace k_q17 : w51_50 q17 = some (aw_ia E 31) := by rw [e_w51_50, aw_up_o _ (by omega)]; exact k_q17
  replace k_q18 : w51_50 q18 = some (aw_ia E 31) := by rw [e_w51_50, aw_up_o _ (by omega)]; exact k_q18
  replace k_q19 : w51_50 q19 = some (aw_ia E 31) := by rw [e_w51_50, aw_up_o _ (by omega)]; exact k_q19
  replace k_q20 : w51_50 q20 = some (aw_ia E 31) := by rw [e_w51_50, aw_up_o _ (by omega)]; exact k_q20
  replace k_q21 : w51_50 q21 = some (aw_ia E 31) := by rw [e_w51_50, aw_up_o _ (by omega)]; exact k_q21
  replace k_q22 : w51_50 q22 = some (aw_ia E 31) := by rw [e_w51_50, aw_up_o _ (by omega)]; exact k_q22
  replace k_q23 : w51_50 q23 = some (aw_ca E 31) := by rw [e_w51_50, aw_up_o _ (by omega)]; exact k_q23
  replace k_q24 : w51_50 q24 = some (aw_ca E 31) := by rw [e_w51_50, aw_up_o _ (by omega)]; exact k_q24
  replace k_q25 : w51_50 q25 = some (aw_ia E 60) := by rw [e_w51_50, aw_up_o _ (by omega)]; exact k_q25
  have k_q26 : w51_50 q26 = some (aw_ia E 60) := by rw [e_w51_50]; exact aw_up_s _ _ _
  refine w_putF (ci := 11) (i := 26) C iw_X10 rfl (by decide) rfl tyX10 tyX10_ok nmX10 rfl hnm rfl fl_X10_86 k_a (Nat.le_of_ble_eq_true rfl) rfl rfl dX10_init_198 ?_
  obtain ⟨w52_51, e_w52_51⟩ : ∃ x : Nat → Option va_E, x = aw_up w51_50 a (.inr (11, [ii_v 0, .ref q1, .ref q2, .ref q3, .ref q4, .ref q5, .ref q6, .ref q7, .ref q8, .ref q9, .ref q10, .ref q11, .ref q12, .ref q13, .ref q14, .ref q15, .ref q16, .ref q17, .ref q18, .ref q19, .ref q20, .ref q21, .ref q22, .ref q23, .ref q24, .ref q25, .null, .null, .null, ii_v 0, ii_v 0, ii_v 0, ii_v 0, ii_v 0, ii_v 0, .null, .null, ii_v 0, ii_v 0, ii_v 0, ii_v 0, ii_v 0, ii_v 0, .null, .null, ii_v 0, ii_v 0].set 26 (.ref q26))) := ⟨_, rfl⟩
  rw [← e_w52_51]
  replace k_q1 : w52_51 q1 = some (aw_ia E 4) := by rw [e_w52_51, aw_up_o _ (by omega)]; exact k_q1
  replace k_q2 : w52_51 q2 = some (aw_ia E 4) := by rw [e_w52_51, aw_up_o _ (by omega)]; exact k_q2
  replace k_q3 : w52_51 q3 = some (aw_ia E 4) := by rw [e_w52_51, aw_up_o _ (by omega)]; exact k_q3
  replace k_q4 : w52_51 q4 = some (aw_ia E 4) := by rw [e_w52_51, aw_up_o _ (by omega)]; exact k_q4
  replace k_q5 : w52_51 q5 = some (aw_ia E 4) := by rw [e_w52_51, aw_up_o _ (by omega)]; exact k_q5
  replace k_q6 : w52_51 q6 = some (aw_ia E 4) := by rw [e_w52_51, aw_up_o _ (by omega)]; exact k_q6
  replace k_q7 : w52_51 q7 = some (aw_ia E 4) := by rw [e_w52_51, aw_up_o _ (by omega)]; exact k_q7
  replace k_q8 : w52_51 q8 = some (aw_ia E 4) := by rw [e_w52_51, aw_up_o _ (by omega)]; exact k_q8
  replace k_q9 : w52_51 q9 = some (aw_ia E 4) := by rw [e_w52_51, aw_up_o _ (by omega)]; exact k_q9
  replace k_q10 : w52_51 q10 = some (aw_ia E 4) := by rw [e_w52_51, aw_up_o _ (by omega)]; exact k_q10
  replace k_q11 : w52_51 q11 = some (aw_ia E 4) := by rw [e_w52_51, aw_up_o _ (by omega)]; exact k_q11
  replace k_q12 : w52_51 q12 = some (aw_ia E 32) := by rw [e_w52_51, aw_up_o _ (by omega)]; exact k_q12
  replace k_q13 : w52_51 q13 = some (aw_ia E 31) := by rw [e_w52_51, aw_up_o _ (by omega)]; exact k_q13
  replace k_q14 : w52_51 q14 = some (aw_ia E 31) := by rw [e_w52_51, aw_up_o _ (by omega)]; exact k_q14
  replace k_q15 : w52_51 q15 = some (aw_ia E 31) := by rw [e_w52_51, aw_up_o _ (by omega)]; exact k_q15
  replace k_q16 : w52_51 q16 = some (aw_ia E 31) := by rw [e_w52_51, aw_up_o _ (by omega)]; exact k_q16
  replace k_q17 : w52_51 q17 = some (aw_ia E 31) := by rw [e_w52_51, aw_up_o _ (by omega)]; exact k_q17
  replace k_q18 : w52_51 q18 = some (aw_ia E 31) := by rw [e_w52_51, aw_up_o _ (by omega)]; exact k_q18
  replace k_q19 : w52_51 q19 = some (aw_ia E 31) := by rw [e_w52_51, aw_up_o _ (by omega)]; exact k_q19
  replace k_q20 : w52_51 q20 = some (aw_ia E 31) := by rw [e_w52_51, aw_up_o _ (by omega)]; exact k_q20
  replace k_q21 : w52_51 q21 = some (aw_ia E 31) := by rw [e_w52_51, aw_up_o _ (by omega)]; exact k_q21
  replace k_q22 : w52_51 q22 = some (aw_ia E 31) := by rw [e_w52_51, aw_up_o _ (by omega)]; exact k_q22
  replace k_q23 : w52_51 q23 = some (aw_ca E 31) := by rw [e_w52_51, aw_up_o _ (by omega)]; exact k_q23
  replace k_q24 : w52_51 q24 = some (aw_ca E 31) := by rw [e_w52_51, aw_up_o _ (by omega)]; exact k_q24
  replace k_q25 : w52_51 q25 = some (aw_ia E 60) := by rw [e_w52_51, aw_up_o _ (by omega)]; exact k_q25
  replace k_q26 : w52_51 q26 = some (aw_ia E 60) := by rw [e_w52_51, aw_up_o _ (by omega)]; exact k_q26
  replace k_a : w52_51 a = some (.inr (11, [ii_v 0, .ref q1, .ref q2, .ref q3, .ref q4, .ref q5, .ref q6, .ref q7, .ref q8, .ref q9, .ref q10, .ref q11, .ref q12, .ref q13, .ref q14, .ref q15, .ref q16, .ref q17, .ref q18, .ref q19, .ref q20, .ref q21, .ref q22, .ref q23, .ref q24, .ref q25, .ref q26, .null, .null, ii_v 0, ii_v 0, ii_v 0, ii_v 0, ii_v 0, ii_v 0, .null, .null, ii_v 0, ii_v 0, ii_v 0, ii_v 0, ii_v 0, ii_v 0, .null, .null, ii_v 0, ii_v 0])) := by rw [e_w52_51]; exact aw_up_s _ _ _
  refine w_aload_n C dX10_init_201 rfl ?_
  refine w_bipush C dX10_init_202 (by decide) ?_
  refine w_newi (N := 60) C rfl (by decide) (by omega) dX10_init_204 ?_
  intro q27 t_q27
  have l_q26_q27 : q26 < q27 := t_q27 _ _ k_q26
  obtain ⟨w53_52, e_w53_52⟩ : ∃ x : Nat → Option va_E, x = aw_up w52_51 q27 (aw_ia E 60) := ⟨_, rfl⟩
  rw [← e_w53_52]
  replace k_a : w53_52 a = some (.inr (11, [ii_v 0, .ref q1, .ref q2, .ref q3, .ref q4, .ref q5, .ref q6, .ref q7, .ref q8, .ref q9, .ref q10, .ref q11, .ref q12, .ref q13, .ref q14, .ref q15, .ref q16, .ref q17, .ref q18, .ref q19, .ref q20, .ref q21, .ref q22, .ref q23, .ref q24, .ref q25, .ref q26, .null, .null, ii_v 0, ii_v 0, ii_v 0, ii_v 0, ii_v 0, ii_v 0, .null, .null, ii_v 0, ii_v 0, ii_v 0, ii_v 0, ii_v 0, ii_v 0, .null, .null, ii_v 0, ii_v 0])) := by rw [e_w53_52, aw_up_o _ (by omega)]; exact k_a
  replace k_q1 : w53_52 q1 = some (aw_ia E 4) := by rw [e_w53_52, aw_up_o _ (by omega)]; exact k_q1
  replace k_q2 : w53_52 q2 = some (aw_ia E 4) := by rw [e_w53_52, aw_up_o _ (by omega)]; exact k_q2
  replace k_q3 : w53_52 q3 = some (aw_ia E 4) := by rw [e_w53_52, aw_up_o _ (by omega)]; exact k_q3
  replace k_q4 : w53_52 q4 = some (aw_ia E 4) := by rw [e_w53_52, aw_up_o _ (by omega)]; exact k_q4
  replace k_q5 : w53_52 q5 = some (aw_ia E 4) := by rw [e_w53_52, aw_up_o _ (by omega)]; exact k_q5
  replace k_q6 : w53_52 q6 = some (aw_ia E 4) := by rw [e_w53_52, aw_up_o _ (by omega)]; exact k_q6
  replace k_q7 : w53_52 q7 = some (aw_ia E 4) := by rw [e_w53_52, aw_up_o _ (by omega)]; exact k_q7
  replace k_q8 : w53_52 q8 = some (aw_ia E 4) := by rw [e_w53_52, aw_up_o _ (by omega)]; exact k_q8
  replace k_q9 : w53_52 q9 = some (aw_ia E 4) := by rw [e_w53_52, aw_up_o _ (by omega)]; exact k_q9
  replace k_q10 : w53_52 q10 = some (aw_ia E 4) := by rw [e_w53_52, aw_up_o _ (by omega)]; exact k_q10
  replace k_q11 : w53_52 q11 = some (aw_ia E 4) := by rw [e_w53_52, aw_up_o _ (by omega)]; exact k_q11
  replace k_q12 : w53_52 q12 = some (aw_ia E 32) := by rw [e_w53_52, aw_up_o _ (by omega)]; exact k_q12
  replace k_q13 : w53_52 q13 = some (aw_ia E 31) := by rw [e_w53_52, aw_up_o _ (by omega)]; exact k_q13
  replace k_q14 : w53_52 q14 = some (aw_ia E 31) := by rw [e_w53_52, aw_up_o _ (by omega)]; exact k_q14
  replace k_q15 : w53_52 q15 = some (aw_ia E 31) := by rw [e_w53_52, aw_up_o _ (by omega)]; exact k_q15
  replace k_q16 : w53_52 q16 = some (aw_ia E 31) := by rw [e_w53_52, aw_up_o _ (by omega)]; exact k_q16
  replace k_q17 : w53_52 q17 = some (aw_ia E 31) := by rw [e_w53_52, aw_up_o _ (by omega)]; exact k_q17
  replace k_q18 : w53_52 q18 = some (aw_ia E 31) := by rw [e_w53_52, aw_up_o _ (by omega)]; exact k_q18
  replace k_q19 : w53_52 q19 = some (aw_ia E 31) := by rw [e_w53_52, aw_up_o _ (by omega)]; exact k_q19
  replace k_q20 : w53_52 q20 = some (aw_ia E 31) := by rw [e_w53_52, aw_up_o _ (by omega)]; exact k_q20
  replace k_q21 : w53_52 q21 = some (aw_ia E 31) := by rw [e_w53_52, aw_up_o _ (by omega)]; exact k_q21
  replace k_q22 : w53_52 q22 = some (aw_ia E 31) := by rw [e_w53_52, aw_up_o _ (by omega)]; exact k_q22
  replace k_q23 : w53_52 q23 = some (aw_ca E 31) := by rw [e_w53_52, aw_up_o _ (by omega)]; exact k_q23
  replace k_q24 : w53_52 q24 = some (aw_ca E 31) := by rw [e_w53_52, aw_up_o _ (by omega)]; exact k_q24
  replace k_q25 : w53_52 q25 = some (aw_ia E 60) := by rw [e_w53_52, aw_up_o _ (by omega)]; exact k_q25
  replace k_q26 : w53_52 q26 = some (aw_ia E 60) := by rw [e_w53_52, aw_up_o _ (by omega)]; exact k_q26
  have k_q27 : w53_52 q27 = some (aw_ia E 60) := by rw [e_w53_52]; exact aw_up_s _ _ _
  refine w_putF (ci := 11) (i := 27) C iw_X10 rfl (by decide) rfl tyX10 tyX10_ok nmX10 rfl hnm rfl fl_X10_89 k_a (Nat.le_of_ble_eq_true rfl) rfl rfl dX10_init_206 ?_
  obtain ⟨w54_53, e_w54_53⟩ : ∃ x : Nat → Option va_E, x = aw_up w53_52 a (.inr (11, [ii_v 0, .ref q1, .ref q2, .ref q3, .ref q4, .ref q5, .ref q6, .ref q7, .ref q8, .ref q9, .ref q10, .ref q11, .ref q12, .ref q13, .ref q14, .ref q15, .ref q16, .ref q17, .ref q18, .ref q19, .ref q20, .ref q21, .ref q22, .ref q23, .ref q24, .ref q25, .ref q26, .null, .null, ii_v 0, ii_v 0, ii_v 0, ii_v 0, ii_v 0, ii_v 0, .null, .null, ii_v 0, ii_v 0, ii_v 0, ii_v 0, ii_v 0, ii_v 0, .null, .null, ii_v 0, ii_v 0].set 27 (.ref q27))) := ⟨_, rfl⟩
  rw [← e_w54_53]
  replace k_q1 : w54_53 q1 = some (aw_ia E 4) := by rw [e_w54_53, aw_up_o _ (by omega)]; exact k_q1
  replace k_q2 : w54_53 q2 = some (aw_ia E 4) := by rw [e_w54_53, aw_up_o _ (by omega)]; exact k_q2
  replace k_q3 : w54_53 q3 = some (aw_ia E 4) := by rw [e_w54_53, aw_up_o _ (by omega)]; exact k_q3
  replace k_q4 : w54_53 q4 = some (aw_ia E 4) := by rw [e_w54_53, aw_up_o _ (by omega)]; exact k_q4
  replace k_q5 : w54_53 q5 = some (aw_ia E 4) := by rw [e_w54_53, aw_up_o _ (by omega)]; exact k_q5
  replace k_q6 : w54_53 q6 = some (aw_ia E 4) := by rw [e_w54_53, aw_up_o _ (by omega)]; exact k_q6
  replace k_q7 : w54_53 q7 = some (aw_ia E 4) := by rw [e_w54_53, aw_up_o _ (by omega)]; exact k_q7
  replace k_q8 : w54_53 q8 = some (aw_ia E 4) := by rw [e_w54_53, aw_up_o _ (by omega)]; exact k_q8
  replace k_q9 : w54_53 q9 = some (aw_ia E 4) := by rw [e_w54_53, aw_up_o _ (by omega)]; exact k_q9
  replace k_q10 : w54_53 q10 = some (aw_ia E 4) := by rw [e_w54_53, aw_up_o _ (by omega)]; exact k_q10
  replace k_q11 : w54_53 q11 = some (aw_ia E 4) := by rw [e_w54_53, aw_up_o _ (by omega)]; exact k_q11
  replace k_q12 : w54_53 q12 = some (aw_ia E 32) := by rw [e_w54_53, aw_up_o _ (by omega)]; exact k_q12
  replace k_q13 : w54_53 q13 = some (aw_ia E 31) := by rw [e_w54_53, aw_up_o _ (by omega)]; exact k_q13
  replace k_q14 : w54_53 q14 = some (aw_ia E 31) := by rw [e_w54_53, aw_up_o _ (by omega)]; exact k_q14
  replace k_q15 : w54_53 q15 = some (aw_ia E 31) := by rw [e_w54_53, aw_up_o _ (by omega)]; exact k_q15
  replace k_q16 : w54_53 q16 = some (aw_ia E 31) := by rw [e_w54_53, aw_up_o _ (by omega)]; exact k_q16
  replace k_q17 : w54_53 q17 = some (aw_ia E 31) := by rw [e_w54_53, aw_up_o _ (by omega)]; exact k_q17
  replace k_q18 : w54_53 q18 = some (aw_ia E 31) := by rw [e_w54_53, aw_up_o _ (by omega)]; exact k_q18
  replace k_q19 : w54_53 q19 = some (aw_ia E 31) := by rw [e_w54_53, aw_up_o _ (by omega)]; exact k_q19
  replace k_q20 : w54_53 q20 = some (aw_ia E 31) := by rw [e_w54_53, aw_up_o _ (by omega)]; exact k_q20
  replace k_q21 : w54_53 q21 = some (aw_ia E 31) := by rw [e_w54_53, aw_up_o _ (by omega)]; exact k_q21
  replace k_q22 : w54_53 q22 = some (aw_ia E 31) := by rw [e_w54_53, aw_up_o _ (by omega)]; exact k_q22
  replace k_q23 : w54_53 q23 = some (aw_ca E 31) := by rw [e_w54_53, aw_up_o _ (by omega)]; exact k_q23
  replace k_q24 : w54_53 q24 = some (aw_ca E 31) := by rw [e_w54_53, aw_up_o _ (by omega)]; exact k_q24
  replace k_q25 : w54_53 q25 = some (aw_ia E 60) := by rw [e_w54_53, aw_up_o _ (by omega)]; exact k_q25
  replace k_q26 : w54_53 q26 = some (aw_ia E 60) := by rw [e_w54_53, aw_up_o _ (by omega)]; exact k_q26
  replace k_q27 : w54_53 q27 = some (aw_ia E 60) := by rw [e_w54_53, aw_up_o _ (by omega)]; exact k_q27
  replace k_a : w54_53 a = some (.inr (11, [ii_v 0, .ref q1, .ref q2, .ref q3, .ref q4, .ref q5, .ref q6, .ref q7, .ref q8, .ref q9, .ref q10, .ref q11, .ref q12, .ref q13, .ref q14, .ref q15, .ref q16, .ref q17, .ref q18, .ref q19, .ref q20, .ref q21, .ref q22, .ref q23, .ref q24, .ref q25, .ref q26, .ref q27, .null, ii_v 0, ii_v 0, ii_v 0, ii_v 0, ii_v 0, ii_v 0, .null, .null, ii_v 0, ii_v 0, ii_v 0, ii_v 0, ii_v 0, ii_v 0, .null, .null, ii_v 0, ii_v 0])) := by rw [e_w54_53]; exact aw_up_s _ _ _
  refine w_aload_n C dX10_init_209 rfl ?_
  refine w_bipush C dX10_init_210 (by decide) ?_
  refine w_newi (N := 60) C rfl (by decide) (by omega) dX10_init_212 ?_
  intro q28 t_q28
  have l_q27_q28 : q27 < q28 := t_q28 _ _ k_q27
  obtain ⟨w55_54, e_w55_54⟩ : ∃ x : Nat → Option va_E, x = aw_up w54_53 q28 (aw_ia E 60) := ⟨_, rfl⟩
  rw [← e_w55_54]
  replace k_a : w55_54 a = some (.inr (11, [ii_v 0, .ref q1, .ref q2, .ref q3, .ref q4, .ref q5, .ref q6, .ref q7, .ref q8, .ref q9, .ref q10, .ref q11, .ref q12, .ref q13, .ref q14, .ref q15, .ref q16, .ref q17, .ref q18, .ref q19, .ref q20, .ref q21, .ref q22, .ref q23, .ref q24, .ref q25, .ref q26, .ref q27, .null, ii_v 0, ii_v 0, ii_v 0, ii_v 0, ii_v 0, ii_v 0, .null, .null, ii_v 0, ii_v 0, ii_v 0, ii_v 0, ii_v 0, ii_v 0, .null, .null, ii_v 0, ii_v 0])) := by rw [e_w55_54, aw_up_o _ (by omega)]; exact k_a
  replace k_q1 : w55_54 q1 = some (aw_ia E 4) := by rw [e_w55_54, aw_up_o _ (by omega)]; exact k_q1
  replace k_q2 : w55_54 q2 = some (aw_ia E 4) := by rw [e_w55_54, aw_up_o _ (by omega)]; exact k_q2
  replace k_q3 : w55_54 q3 = some (aw_ia E 4) := by rw [e_w55_54, aw_up_o _ (by omega)]; exact k_q3
  replace k_q4 : w55_54 q4 = some (aw_ia E 4) := by rw [e_w55_54, aw_up_o _ (by omega)]; exact k_q4
  replace k_q5 : w55_54 q5 = some (aw_ia E 4) := by rw [e_w55_54, aw_up_o _ (by omega)]; exact k_q5
  replace k_q6 : w55_54 q6 = some (aw_ia E 4) := by rw [e_w55_54, aw_up_o _ (by omega)]; exact k_q6
  replace k_q7 : w55_54 q7 = some (aw_ia E 4) := by rw [e_w55_54, aw_up_o _ (by omega)]; exact k_q7
  replace k_q8 : w55_54 q8 = some (aw_ia E 4) := by rw [e_w55_54, aw_up_o _ (by omega)]; exact k_q8
  replace k_q9 : w55_54 q9 = some (aw_ia E 4) := by rw [e_w55_54, aw_up_o _ (by omega)]; exact k_q9
  replace k_q10 : w55_54 q10 = some (aw_ia E 4) := by rw [e_w55_54, aw_up_o _ (by omega)]; exact k_q10
  replace k_q11 : w55_54 q11 = some (aw_ia E 4) := by rw [e_w55_54, aw_up_o _ (by omega)]; exact k_q11
  replace k_q12 : w55_54 q12 = some (aw_ia E 32) := by rw [e_w55_54, aw_up_o _ (by omega)]; exact k_q12
  replace k_q13 : w55_54 q13 = some (aw_ia E 31) := by rw [e_w55_54, aw_up_o _ (by omega)]; exact k_q13
  replace k_q14 : w55_54 q14 = some (aw_ia E 31) := by rw [e_w55_54, aw_up_o _ (by omega)]; exact k_q14
  replace k_q15 : w55_54 q15 = some (aw_ia E 31) := by rw [e_w55_54, aw_up_o _ (by omega)]; exact k_q15
  replace k_q16 : w55_54 q16 = some (aw_ia E 31) := by rw [e_w55_54, aw_up_o _ (by omega)]; exact k_q16
  replace k_q17 : w55_54 q17 = some (aw_ia E 31) := by rw [e_w55_54, aw_up_o _ (by omega)]; exact k_q17
  replace k_q18 : w55_54 q18 = some (aw_ia E 31) := by rw [e_w55_54, aw_up_o _ (by omega)]; exact k_q18
  replace k_q19 : w55_54 q19 = some (aw_ia E 31) := by rw [e_w55_54, aw_up_o _ (by omega)]; exact k_q19
  replace k_q20 : w55_54 q20 = some (aw_ia E 31) := by rw [e_w55_54, aw_up_o _ (by omega)]; exact k_q20
  replace k_q21 : w55_54 q21 = some (aw_ia E 31) := by rw [e_w55_54, aw_up_o _ (by omega)]; exact k_q21
  replace k_q22 : w55_54 q22 = some (aw_ia E 31) := by rw [e_w55_54, aw_up_o _ (by omega)]; exact k_q22
  replace k_q23 : w55_54 q23 = some (aw_ca E 31) := by rw [e_w55_54, aw_up_o _ (by omega)]; exact k_q23
  replace k_q24 : w55_54 q24 = some (aw_ca E 31) := by rw [e_w55_54, aw_up_o _ (by omega)]; exact k_q24
  replace k_q25 : w55_54 q25 = some (aw_ia E 60) := by rw [e_w55_54, aw_up_o _ (by omega)]; exact k_q25
  replace k_q26 : w55_54 q26 = some (aw_ia E 60) := by rw [e_w55_54, aw_up_o _ (by omega)]; exact k_q26
  replace k_q27 : w55_54 q27 = some (aw_ia E 60) := by rw [e_w55_54, aw_up_o _ (by omega)]; exact k_q27
  have k_q28 : w55_54 q28 = some (aw_ia E 60) := by rw [e_w55_54]; exact aw_up_s _ _ _
  refine w_putF (ci := 11) (i := 28) C iw_X10 rfl (by decide) rfl tyX10 tyX10_ok nmX10 rfl hnm rfl fl_X10_92 k_a (Nat.le_of_ble_eq_true rfl) rfl rfl dX10_init_214 ?_
  obtain ⟨w56_55, e_w56_55⟩ : ∃ x : Nat → Option va_E, x = aw_up w55_54 a (.inr (11, [ii_v 0, .ref q1, .ref q2, .ref q3, .ref q4, .ref q5, .ref q6, .ref q7, .ref q8, .ref q9, .ref q10, .ref q11, .ref q12, .ref q13, .ref q14, .ref q15, .ref q16, .ref q17, .ref q18, .ref q19, .ref q20, .ref q21, .ref q22, .ref q23, .ref q24, .ref q25, .ref q26, .ref q27, .null, ii_v 0, ii_v 0, ii_v 0, ii_v 0, ii_v 0, ii_v 0, .null, .null, ii_v 0, ii_v 0, ii_v 0, ii_v 0, ii_v 0, ii_v 0, .null, .null, ii_v 0, ii_v 0].set 28 (.ref q28))) := ⟨_, rfl⟩
  rw [← e_w56_55]
  replace k_q1 : w56_55 q1 = some (aw_ia E 4) := by rw [e_w56_55, aw_up_o _ (by omega)]; exact k_q1
  replace k_q2 : w56_55 q2 = some (aw_ia E 4) := by rw [e_w56_55, aw_up_o _ (by omega)]; exact k_q2
  replace k_q3 : w56_55 q3 = some (aw_ia E 4) := by rw [e_w56_55, aw_up_o _ (by omega)]; exact k_q3
  replace k_q4 : w56_55 q4 = some (aw_ia E 4) := by rw [e_w56_55, aw_up_o _ (by omega)]; exact k_q4
  replace k_q5 : w56_55 q5 = some (aw_ia E 4) := by rw [e_w56_55, aw_up_o _ (by omega)]; exact k_q5
  replace k_q6 : w56_55 q6 = some (aw_ia E 4) := by rw [e_w56_55, aw_up_o _ (by omega)]; exact k_q6
  replace k_q7 : w56_55 q7 = some (aw_ia E 4) := by rw [e_w56_55, aw_up_o _ (by omega)]; exact k_q7
  replace k_q8 : w56_55 q8 = some (aw_ia E 4) := by rw [e_w56_55, aw_up_o _ (by omega)]; exact k_q8
  replace k_q9 : w56_55 q9 = some (aw_ia E 4) := by rw [e_w56_55, aw_up_o _ (by omega)]; exact k_q9
  replace k_q10 : w56_55 q10 = some (aw_ia E 4) := by rw [e_w56_55, aw_up_o _ (by omega)]; exact k_q10
  replace k_q11 : w56_55 q11 = some (aw_ia E 4) := by rw [e_w56_55, aw_up_o _ (by omega)]; exact k_q11
  replace k_q12 : w56_55 q12 = some (aw_ia E 32) := by rw [e_w56_55, aw_up_o _ (by omega)]; exact k_q12
  replace k_q13 : w56_55 q13 = some (aw_ia E 31) := by rw [e_w56_55, aw_up_o _ (by omega)]; exact k_q13
  replace k_q14 : w56_55 q14 = some (aw_ia E 31) := by rw [e_w56_55, aw_up_o _ (by omega)]; exact k_q14
  replace k_q15 : w56_55 q15 = some (aw_ia E 31) := by rw [e_w56_55, aw_up_o _ (by omega)]; exact k_q15
  replace k_q16 : w56_55 q16 = some (aw_ia E 31) := by rw [e_w56_55, aw_up_o _ (by omega)]; exact k_q16
  replace k_q17 : w56_55 q17 = some (aw_ia E 31) := by rw [e_w56_55, aw_up_o _ (by omega)]; exact k_q17
  replace k_q18 : w56_55 q18 = some (aw_ia E 31) := by rw [e_w56_55, aw_up_o _ (by omega)]; exact k_q18
  replace k_q19 : w56_55 q19 = some (aw_ia E 31) := by rw [e_w56_55, aw_up_o _ (by omega)]; exact k_q19
  replace k_q20 : w56_55 q20 = some (aw_ia E 31) := by rw [e_w56_55, aw_up_o _ (by omega)]; exact k_q20
  replace k_q21 : w56_55 q21 = some (aw_ia E 31) := by rw [e_w56_55, aw_up_o _ (by omega)]; exact k_q21
  replace k_q22 : w56_55 q22 = some (aw_ia E 31) := by rw [e_w56_55, aw_up_o _ (by omega)]; exact k_q22
  replace k_q23 : w56_55 q23 = some (aw_ca E 31) := by rw [e_w56_55, aw_up_o _ (by omega)]; exact k_q23
  replace k_q24 : w56_55 q24 = some (aw_ca E 31) := by rw [e_w56_55, aw_up_o _ (by omega)]; exact k_q24
  replace k_q25 : w56_55 q25 = some (aw_ia E 60) := by rw [e_w56_55, aw_up_o _ (by omega)]; exact k_q25
  replace k_q26 : w56_55 q26 = some (aw_ia E 60) := by rw [e_w56_55, aw_up_o _ (by omega)]; exact k_q26
  replace k_q27 : w56_55 q27 = some (aw_ia E 60) := by rw [e_w56_55, aw_up_o _ (by omega)]; exact k_q27
  replace k_q28 : w56_55 q28 = some (aw_ia E 60) := by rw [e_w56_55, aw_up_o _ (by omega)]; exact k_q28
  replace k_a : w56_55 a = some (.inr (11, [ii_v 0, .ref q1, .ref q2, .ref q3, .ref q4, .ref q5, .ref q6, .ref q7, .ref q8, .ref q9, .ref q10, .ref q11, .ref q12, .ref q13, .ref q14, .ref q15, .ref q16, .ref q17, .ref q18, .ref q19, .ref q20, .ref q21, .ref q22, .ref q23, .ref q24, .ref q25, .ref q26, .ref q27, .ref q28, ii_v 0, ii_v 0, ii_v 0, ii_v 0, ii_v 0, ii_v 0, .null, .null, ii_v 0, ii_v 0, ii_v 0, ii_v 0, ii_v 0, ii_v 0, .null, .null, ii_v 0, ii_v 0])) := by rw [e_w56_55]; exact aw_up_s _ _ _
  refine w_aload_n C dX10_init_217 rfl ?_
  refine w_bipush C dX10_init_218 (by decide) ?_
  refine w_put (ci := 11) (i := 33) C iw_X10 rfl (by decide) (Or.inl rfl) tyX10 tyX10_ok nmX10 rfl rfl fl_X10_95 k_a (Nat.le_of_ble_eq_true rfl) rfl rfl dX10_init_220 ?_
  obtain ⟨w57_56, e_w57_56⟩ : ∃ x : Nat → Option va_E, x = aw_up w56_55 a (.inr (11, [ii_v 0, .ref q1, .ref q2, .ref q3, .ref q4, .ref q5, .ref q6, .ref q7, .ref q8, .ref q9, .ref q10, .ref q11, .ref q12, .ref q13, .ref q14, .ref q15, .ref q16, .ref q17, .ref q18, .ref q19, .ref q20, .ref q21, .ref q22, .ref q23, .ref q24, .ref q25, .ref q26, .ref q27, .ref q28, ii_v 0, ii_v 0, ii_v 0, ii_v 0, ii_v 0, ii_v 0, .null, .null, ii_v 0, ii_v 0, ii_v 0, ii_v 0, ii_v 0, ii_v 0, .null, .null, ii_v 0, ii_v 0].set 33 (ii_v 50))) := ⟨_, rfl⟩
  rw [← e_w57_56]
  replace k_q1 : w57_56 q1 = some (aw_ia E 4) := by rw [e_w57_56, aw_up_o _ (by omega)]; exact k_q1
  replace k_q2 : w57_56 q2 = some (aw_ia E 4) := by rw [e_w57_56, aw_up_o _ (by omega)]; exact k_q2
  replace k_q3 : w57_56 q3 = some (aw_ia E 4) := by rw [e_w57_56, aw_up_o _ (by omega)]; exact k_q3
  replace k_q4 : w57_56 q4 = some (aw_ia E 4) := by rw [e_w57_56, aw_up_o _ (by omega)]; exact k_q4
  replace k_q5 : w57_56 q5 = some (aw_ia E 4) := by rw [e_w57_56, aw_up_o _ (by omega)]; exact k_q5
  replace k_q6 : w57_56 q6 = some (aw_ia E 4) := by rw [e_w57_56, aw_up_o _ (by omega)]; exact k_q6
  replace k_q7 : w57_56 q7 = some (aw_ia E 4) := by rw [e_w57_56, aw_up_o _ (by omega)]; exact k_q7
  replace k_q8 : w57_56 q8 = some (aw_ia E 4) := by rw [e_w57_56, aw_up_o _ (by omega)]; exact k_q8
  replace k_q9 : w57_56 q9 = some (aw_ia E 4) := by rw [e_w57_56, aw_up_o _ (by omega)]; exact k_q9
  replace k_q10 : w57_56 q10 = some (aw_ia E 4) := by rw [e_w57_56, aw_up_o _ (by omega)]; exact k_q10
  replace k_q11 : w57_56 q11 = some (aw_ia E 4) := by rw [e_w57_56, aw_up_o _ (by omega)]; exact k_q11
  replace k_q12 : w57_56 q12 = some (aw_ia E 32) := by rw [e_w57_56, aw_up_o _ (by omega)]; exact k_q12
  replace k_q13 : w57_56 q13 = some (aw_ia E 31) := by rw [e_w57_56, aw_up_o _ (by omega)]; exact k_q13
  replace k_q14 : w57_56 q14 = some (aw_ia E 31) := by rw [e_w57_56, aw_up_o _ (by omega)]; exact k_q14
  replace k_q15 : w57_56 q15 = some (aw_ia E 31) := by rw [e_w57_56, aw_up_o _ (by omega)]; exact k_q15
  replace k_q16 : w57_56 q16 = some (aw_ia E 31) := by rw [e_w57_56, aw_up_o _ (by omega)]; exact k_q16
  replace k_q17 : w57_56 q17 = some (aw_ia E 31) := by rw [e_w57_56, aw_up_o _ (by omega)]; exact k_q17
  replace k_q18 : w57_56 q18 = some (aw_ia E 31) := by rw [e_w57_56, aw_up_o _ (by omega)]; exact k_q18
  replace k_q19 : w57_56 q19 = some (aw_ia E 31) := by rw [e_w57_56, aw_up_o _ (by omega)]; exact k_q19
  replace k_q20 : w57_56 q20 = some (aw_ia E 31) := by rw [e_w57_56, aw_up_o _ (by omega)]; exact k_q20
  replace k_q21 : w57_56 q21 = some (aw_ia E 31) := by rw [e_w57_56, aw_up_o _ (by omega)]; exact k_q21
  replace k_q22 : w57_56 q22 = some (aw_ia E 31) := by rw [e_w57_56, aw_up_o _ (by omega)]; exact k_q22
  replace k_q23 : w57_56 q23 = some (aw_ca E 31) := by rw [e_w57_56, aw_up_o _ (by omega)]; exact k_q23
  replace k_q24 : w57_56 q24 = some (aw_ca E 31) := by rw [e_w57_56, aw_up_o _ (by omega)]; exact k_q24
  replace k_q25 : w57_56 q25 = some (aw_ia E 60) := by rw [e_w57_56, aw_up_o _ (by omega)]; exact k_q25
  replace k_q26 : w57_56 q26 = some (aw_ia E 60) := by rw [e_w57_56, aw_up_o _ (by omega)]; exact k_q26
  replace k_q27 : w57_56 q27 = some (aw_ia E 60) := by rw [e_w57_56, aw_up_o _ (by omega)]; exact k_q27
  replace k_q28 : w57_56 q28 = some (aw_ia E 60) := by rw [e_w57_56, aw_up_o _ (by omega)]; exact k_q28
  replace k_a : w57_56 a = some (.inr (11, [ii_v 0, .ref q1, .ref q2, .ref q3, .ref q4, .ref q5, .ref q6, .ref q7, .ref q8, .ref q9, .ref q10, .ref q11, .ref q12, .ref q13, .ref q14, .ref q15, .ref q16, .ref q17, .ref q18, .ref q19, .ref q20, .ref q21, .ref q22, .ref q23, .ref q24, .ref q25, .ref q26, .ref q27, .ref q28, ii_v 0, ii_v 0, ii_v 0, ii_v 0, ii_v 50, ii_v 0, .null, .null, ii_v 0, ii_v 0, ii_v 0, ii_v 0, ii_v 0, ii_v 0, .null, .null, ii_v 0, ii_v 0])) := by rw [e_w57_56]; exact aw_up_s _ _ _
  refine w_aload_n C dX10_init_223 rfl ?_
  refine w_bipush C dX10_init_224 (by decide) ?_
  refine w_put (ci := 11) (i := 34) C iw_X10 rfl (by decide) (Or.inl rfl) tyX10 tyX10_ok nmX10 rfl rfl fl_X10_99 k_a (Nat.le_of_ble_eq_true rfl) rfl rfl dX10_init_226 ?_
  obtain ⟨w58_57, e_w58_57⟩ : ∃ x : Nat → Option va_E, x = aw_up w57_56 a (.inr (11, [ii_v 0, .ref q1, .ref q2, .ref q3, .ref q4, .ref q5, .ref q6, .ref q7, .ref q8, .ref q9, .ref q10, .ref q11, .ref q12, .ref q13, .ref q14, .ref q15, .ref q16, .ref q17, .ref q18, .ref q19, .ref q20, .ref q21, .ref q22, .ref q23, .ref q24, .ref q25, .ref q26, .ref q27, .ref q28, ii_v 0, ii_v 0, ii_v 0, ii_v 0, ii_v 50, ii_v 0, .null, .null, ii_v 0, ii_v 0, ii_v 0, ii_v 0, ii_v 0, ii_v 0, .null, .null, ii_v 0, ii_v 0].set 34 (ii_v 15))) := ⟨_, rfl⟩
  rw [← e_w58_57]
  replace k_q1 : w58_57 q1 = some (aw_ia E 4) := by rw [e_w58_57, aw_up_o _ (by omega)]; exact k_q1
  replace k_q2 : w58_57 q2 = some (aw_ia E 4) := by rw [e_w58_57, aw_up_o _ (by omega)]; exact k_q2
  replace k_q3 : w58_57 q3 = some (aw_ia E 4) := by rw [e_w58_57, aw_up_o _ (by omega)]; exact k_q3
  replace k_q4 : w58_57 q4 = some (aw_ia E 4) := by rw [e_w58_57, aw_up_o _ (by omega)]; exact k_q4
  replace k_q5 : w58_57 q5 = some (aw_ia E 4) := by rw [e_w58_57, aw_up_o _ (by omega)]; exact k_q5
  replace k_q6 : w58_57 q6 = some (aw_ia E 4) := by rw [e_w58_57, aw_up_o _ (by omega)]; exact k_q6
  replace k_q7 : w58_57 q7 = some (aw_ia E 4) := by rw [e_w58_57, aw_up_o _ (by omega)]; exact k_q7
  replace k_q8 : w58_57 q8 = some (aw_ia E 4) := by rw [e_w58_57, aw_up_o _ (by omega)]; exact k_q8
  replace k_q9 : w58_57 q9 = some (aw_ia E 4) := by rw [e_w58_57, aw_up_o _ (by omega)]; exact k_q9
  replace k_q10 : w58_57 q10 = some (aw_ia E 4) := by rw [e_w58_57, aw_up_o _ (by omega)]; exact k_q10
  replace k_q11 : w58_57 q11 = some (aw_ia E 4) := by rw [e_w58_57, aw_up_o _ (by omega)]; exact k_q11
  replace k_q12 : w58_57 q12 = some (aw_ia E 32) := by rw [e_w58_57, aw_up_o _ (by omega)]; exact k_q12
  replace k_q13 : w58_57 q13 = some (aw_ia E 31) := by rw [e_w58_57, aw_up_o _ (by omega)]; exact k_q13
  replace k_q14 : w58_57 q14 = some (aw_ia E 31) := by rw [e_w58_57, aw_up_o _ (by omega)]; exact k_q14
  replace k_q15 : w58_57 q15 = some (aw_ia E 31) := by rw [e_w58_57, aw_up_o _ (by omega)]; exact k_q15
  replace k_q16 : w58_57 q16 = some (aw_ia E 31) := by rw [e_w58_57, aw_up_o _ (by omega)]; exact k_q16
  replace k_q17 : w58_57 q17 = some (aw_ia E 31) := by rw [e_w58_57, aw_up_o _ (by omega)]; exact k_q17
  replace k_q18 : w58_57 q18 = some (aw_ia E 31) := by rw [e_w58_57, aw_up_o _ (by omega)]; exact k_q18
  replace k_q19 : w58_57 q19 = some (aw_ia E 31) := by rw [e_w58_57, aw_up_o _ (by omega)]; exact k_q19
  replace k_q20 : w58_57 q20 = some (aw_ia E 31) := by rw [e_w58_57, aw_up_o _ (by omega)]; exact k_q20
  replace k_q21 : w58_57 q21 = some (aw_ia E 31) := by rw [e_w58_57, aw_up_o _ (by omega)]; exact k_q21
  replace k_q22 : w58_57 q22 = some (aw_ia E 31) := by rw [e_w58_57, aw_up_o _ (by omega)]; exact k_q22
  replace k_q23 : w58_57 q23 = some (aw_ca E 31) := by rw [e_w58_57, aw_up_o _ (by omega)]; exact k_q23
  replace k_q24 : w58_57 q24 = some (aw_ca E 31) := by rw [e_w58_57, aw_up_o _ (by omega)]; exact k_q24
  replace k_q25 : w58_57 q25 = some (aw_ia E 60) := by rw [e_w58_57, aw_up_o _ (by omega)]; exact k_q25
  replace k_q26 : w58_57 q26 = some (aw_ia E 60) := by rw [e_w58_57, aw_up_o _ (by omega)]; exact k_q26
  replace k_q27 : w58_57 q27 = some (aw_ia E 60) := by rw [e_w58_57, aw_up_o _ (by omega)]; exact k_q27
  replace k_q28 : w58_57 q28 = some (aw_ia E 60) := by rw [e_w58_57, aw_up_o _ (by omega)]; exact k_q28
  replace k_a : w58_57 a = some (.inr (11, [ii_v 0, .ref q1, .ref q2, .ref q3, .ref q4, .ref q5, .ref q6, .ref q7, .ref q8, .ref q9, .ref q10, .ref q11, .ref q12, .ref q13, .ref q14, .ref q15, .ref q16, .ref q17, .ref q18, .ref q19, .ref q20, .ref q21, .ref q22, .ref q23, .ref q24, .ref q25, .ref q26, .ref q27, .ref q28, ii_v 0, ii_v 0, ii_v 0, ii_v 0, ii_v 50, ii_v 15, .null, .null, ii_v 0, ii_v 0, ii_v 0, ii_v 0, ii_v 0, ii_v 0, .null, .null, ii_v 0, ii_v 0])) := by rw [e_w58_57]; exact aw_up_s _ _ _
  refine w_aload_n C dX10_init_229 rfl ?_
  refine w_bipush C dX10_init_230 (by decide) ?_
  refine w_newi (N := 8) C rfl (by decide) (by omega) dX10_init_232 ?_
  intro q29 t_q29
  have l_q28_q29 : q28 < q29 := t_q29 _ _ k_q28
  obtain ⟨w59_58, e_w59_58⟩ : ∃ x : Nat → Option va_E, x = aw_up w58_57 q29 (aw_ia E 8) := ⟨_, rfl⟩
  rw [← e_w59_58]
  replace k_a : w59_58 a = some (.inr (11, [ii_v 0, .ref q1, .ref q2, .ref q3, .ref q4, .ref q5, .ref q6, .ref q7, .ref q8, .ref q9, .ref q10, .ref q11, .ref q12, .ref q13, .ref q14, .ref q15, .ref q16, .ref q17, .ref q18, .ref q19, .ref q20, .ref q21, .ref q22, .ref q23, .ref q24, .ref q25, .ref q26, .ref q27, .ref q28, ii_v 0, ii_v 0, ii_v 0, ii_v 0, ii_v 50, ii_v 15, .null, .null, ii_v 0, ii_v 0, ii_v 0, ii_v 0, ii_v 0, ii_v 0, .null, .null, ii_v 0, ii_v 0])) := by rw [e_w59_58, aw_up_o _ (by omega)]; exact k_a
  replace k_q1 : w59_58 q1 = some (aw_ia E 4) := by rw [e_w59_58, aw_up_o _ (by omega)]; exact k_q1
  replace k_q2 : w59_58 q2 = some (aw_ia E 4) := by rw [e_w59_58, aw_up_o _ (by omega)]; exact k_q2
  replace k_q3 : w59_58 q3 = some (aw_ia E 4) := by rw [e_w59_58, aw_up_o _ (by omega)]; exact k_q3
  replace k_q4 : w59_58 q4 = some (aw_ia E 4) := by rw [e_w59_58, aw_up_o _ (by omega)]; exact k_q4
  replace k_q5 : w59_58 q5 = some (aw_ia E 4) := by rw [e_w59_58, aw_up_o _ (by omega)]; exact k_q5
  replace k_q6 : w59_58 q6 = some (aw_ia E 4) := by rw [e_w59_58, aw_up_o _ (by omega)]; exact k_q6
  replace k_q7 : w59_58 q7 = some (aw_ia E 4) := by rw [e_w59_58, aw_up_o _ (by omega)]; exact k_q7
  replace k_q8 : w59_58 q8 = some (aw_ia E 4) := by rw [e_w59_58, aw_up_o _ (by omega)]; exact k_q8
  replace k_q9 : w59_58 q9 = some (aw_ia E 4) := by rw [e_w59_58, aw_up_o _ (by omega)]; exact k_q9
  replace k_q10 : w59_58 q10 = some (aw_ia E 4) := by rw [e_w59_58, aw_up_o _ (by omega)]; exact k_q10
  replace k_q11 : w59_58 q11 = some (aw_ia E 4) := by rw [e_w59_58, aw_up_o _ (by omega)]; exact k_q11
  replace k_q12 : w59_58 q12 = some (aw_ia E 32) := by rw [e_w59_58, aw_up_o _ (by omega)]; exact k_q12
  replace k_q13 : w59_58 q13 = some (aw_ia E 31) := by rw [e_w59_58, aw_up_o _ (by omega)]; exact k_q13
  replace k_q14 : w59_58 q14 = some (aw_ia E 31) := by rw [e_w59_58, aw_up_o _ (by omega)]; exact k_q14
  replace k_q15 : w59_58 q15 = some (aw_ia E 31) := by rw [e_w59_58, aw_up_o _ (by omega)]; exact k_q15
  replace k_q16 : w59_58 q16 = some (aw_ia E 31) := by rw [e_w59_58, aw_up_o _ (by omega)]; exact k_q16
  replace k_q17 : w59_58 q17 = some (aw_ia E 31) := by rw [e_w59_58, aw_up_o _ (by omega)]; exact k_q17
  replace k_q18 : w59_58 q18 = some (aw_ia E 31) := by rw [e_w59_58, aw_up_o _ (by omega)]; exact k_q18
  replace k_q19 : w59_58 q19 = some (aw_ia E 31) := by rw [e_w59_58, aw_up_o _ (by omega)]; exact k_q19
  replace k_q20 : w59_58 q20 = some (aw_ia E 31) := by rw [e_w59_58, aw_up_o _ (by omega)]; exact k_q20
  replace k_q21 : w59_58 q21 = some (aw_ia E 31) := by rw [e_w59_58, aw_up_o _ (by omega)]; exact k_q21
  replace k_q22 : w59_58 q22 = some (aw_ia E 31) := by rw [e_w59_58, aw_up_o _ (by omega)]; exact k_q22
  replace k_q23 : w59_58 q23 = some (aw_ca E 31) := by rw [e_w59_58, aw_up_o _ (by omega)]; exact k_q23
  replace k_q24 : w59_58 q24 = some (aw_ca E 31) := by rw [e_w59_58, aw_up_o _ (by omega)]; exact k_q24
  replace k_q25 : w59_58 q25 = some (aw_ia E 60) := by rw [e_w59_58, aw_up_o _ (by omega)]; exact k_q25
  replace k_q26 : w59_58 q26 = some (aw_ia E 60) := by rw [e_w59_58, aw_up_o _ (by omega)]; exact k_q26
  replace k_q27 : w59_58 q27 = some (aw_ia E 60) := by rw [e_w59_58, aw_up_o _ (by omega)]; exact k_q27
  replace k_q28 : w59_58 q28 = some (aw_ia E 60) := by rw [e_w59_58, aw_up_o _ (by omega)]; exact k_q28
  have k_q29 : w59_58 q29 = some (aw_ia E 8) := by rw [e_w59_58]; exact aw_up_s _ _ _
  refine w_putF (ci := 11) (i := 35) C iw_X10 rfl (by decide) rfl tyX10 tyX10_ok nmX10 rfl hnm rfl fl_X10_102 k_a (Nat.le_of_ble_eq_true rfl) rfl rfl dX10_init_234 ?_
  obtain ⟨w60_59, e_w60_59⟩ : ∃ x : Nat → Option va_E, x = aw_up w59_58 a (.inr (11, [ii_v 0, .ref q1, .ref q2, .ref q3, .ref q4, .ref q5, .ref q6, .ref q7, .ref q8, .ref q9, .ref q10, .ref q11, .ref q12, .ref q13, .ref q14, .ref q15, .ref q16, .ref q17, .ref q18, .ref q19, .ref q20, .ref q21, .ref q22, .ref q23, .ref q24, .ref q25, .ref q26, .ref q27, .ref q28, ii_v 0, ii_v 0, ii_v 0, ii_v 0, ii_v 50, ii_v 15, .null, .null, ii_v 0, ii_v 0, ii_v 0, ii_v 0, ii_v 0, ii_v 0, .null, .null, ii_v 0, ii_v 0].set 35 (.ref q29))) := ⟨_, rfl⟩
  rw [← e_w60_59]
  replace k_q1 : w60_59 q1 = some (aw_ia E 4) := by rw [e_w60_59, aw_up_o _ (by omega)]; exact k_q1
  replace k_q2 : w60_59 q2 = some (aw_ia E 4) := by rw [e_w60_59, aw_up_o _ (by omega)]; exact k_q2
  replace k_q3 : w60_59 q3 = some (aw_ia E 4) := by rw [e_w60_59, aw_up_o _ (by omega)]; exact k_q3
  replace k_q4 : w60_59 q4 = some (aw_ia E 4) := by rw [e_w60_59, aw_up_o _ (by omega)]; exact k_q4
  replace k_q5 : w60_59 q5 = some (aw_ia E 4) := by rw [e_w60_59, aw_up_o _ (by omega)]; exact k_q5
  replace k_q6 : w60_59 q6 = some (aw_ia E 4) := by rw [e_w60_59, aw_up_o _ (by omega)]; exact k_q6
  replace k_q7 : w60_59 q7 = some (aw_ia E 4) := by rw [e_w60_59, aw_up_o _ (by omega)]; exact k_q7
  replace k_q8 : w60_59 q8 = some (aw_ia E 4) := by rw [e_w60_59, aw_up_o _ (by omega)]; exact k_q8
  replace k_q9 : w60_59 q9 = some (aw_ia E 4) := by rw [e_w60_59, aw_up_o _ (by omega)]; exact k_q9
  replace k_q10 : w60_59 q10 = some (aw_ia E 4) := by rw [e_w60_59, aw_up_o _ (by omega)]; exact k_q10
  replace k_q11 : w60_59 q11 = some (aw_ia E 4) := by rw [e_w60_59, aw_up_o _ (by omega)]; exact k_q11
  replace k_q12 : w60_59 q12 = some (aw_ia E 32) := by rw [e_w60_59, aw_up_o _ (by omega)]; exact k_q12
  replace k_q13 : w60_59 q13 = some (aw_ia E 31) := by rw [e_w60_59, aw_up_o _ (by omega)]; exact k_q13
  replace k_q14 : w60_59 q14 = some (aw_ia E 31) := by rw [e_w60_59, aw_up_o _ (by omega)]; exact k_q14
  replace k_q15 : w60_59 q15 = some (aw_ia E 31) := by rw [e_w60_59, aw_up_o _ (by omega)]; exact k_q15
  replace k_q16 : w60_59 q16 = some (aw_ia E 31) := by rw [e_w60_59, aw_up_o _ (by omega)]; exact k_q16
  replace k_q17 : w60_59 q17 = some (aw_ia E 31) := by rw [e_w60_59, aw_up_o _ (by omega)]; exact k_q17
  replace k_q18 : w60_59 q18 = some (aw_ia E 31) := by rw [e_w60_59, aw_up_o _ (by omega)]; exact k_q18
  replace k_q19 : w60_59 q19 = some (aw_ia E 31) := by rw [e_w60_59, aw_up_o _ (by omega)]; exact k_q19
  replace k_q20 : w60_59 q20 = some (aw_ia E 31) := by rw [e_w60_59, aw_up_o _ (by omega)]; exact k_q20
  replace k_q21 : w60_59 q21 = some (aw_ia E 31) := by rw [e_w60_59, aw_up_o _ (by omega)]; exact k_q21
  replace k_q22 : w60_59 q22 = some (aw_ia E 31) := by rw [e_w60_59, aw_up_o _ (by omega)]; exact k_q22
  replace k_q23 : w60_59 q23 = some (aw_ca E 31) := by rw [e_w60_59, aw_up_o _ (by omega)]; exact k_q23
  replace k_q24 : w60_59 q24 = some (aw_ca E 31) := by rw [e_w60_59, aw_up_o _ (by omega)]; exact k_q24
  replace k_q25 : w60_59 q25 = some (aw_ia E 60) := by rw [e_w60_59, aw_up_o _ (by omega)]; exact k_q25
  replace k_q26 : w60_59 q26 = some (aw_ia E 60) := by rw [e_w60_59, aw_up_o _ (by omega)]; exact k_q26
  replace k_q27 : w60_59 q27 = some (aw_ia E 60) := by rw [e_w60_59, aw_up_o _ (by omega)]; exact k_q27
  replace k_q28 : w60_59 q28 = some (aw_ia E 60) := by rw [e_w60_59, aw_up_o _ (by omega)]; exact k_q28
  replace k_q29 : w60_59 q29 = some (aw_ia E 8) := by rw [e_w60_59, aw_up_o _ (by omega)]; exact k_q29
  replace k_a : w60_59 a = some (.inr (11, [ii_v 0, .ref q1, .ref q2, .ref q3, .ref q4, .ref q5, .ref q6, .ref q7, .ref q8, .ref q9, .ref q10, .ref q11, .ref q12, .ref q13, .ref q14, .ref q15, .ref q16, .ref q17, .ref q18, .ref q19, .ref q20, .ref q21, .ref q22, .ref q23, .ref q24, .ref q25, .ref q26, .ref q27, .ref q28, ii_v 0, ii_v 0, ii_v 0, ii_v 0, ii_v 50, ii_v 15, .ref q29, .null, ii_v 0, ii_v 0, ii_v 0, ii_v 0, ii_v 0, ii_v 0, .null, .null, ii_v 0, ii_v 0])) := by rw [e_w60_59]; exact aw_up_s _ _ _
  refine w_aload_n C dX10_init_237 rfl ?_
  refine w_bipush C dX10_init_238 (by decide) ?_
  refine w_newi (N := 8) C rfl (by decide) (by omega) dX10_init_240 ?_
  intro q30 t_q30
  have l_q29_q30 : q29 < q30 := t_q30 _ _ k_q29
  obtain ⟨w61_60, e_w61_60⟩ : ∃ x : Nat → Option va_E, x = aw_up w60_59 q30 (aw_ia E 8) := ⟨_, rfl⟩
  rw [← e_w61_60]
  replace k_a : w61_60 a = some (.inr (11, [ii_v 0, .ref q1, .ref q2, .ref q3, .ref q4, .ref q5, .ref q6, .ref q7, .ref q8, .ref q9, .ref q10, .ref q11, .ref q12, .ref q13, .ref q14, .ref q15, .ref q16, .ref q17, .ref q18, .ref q19, .ref q20, .ref q21, .ref q22, .ref q23, .ref q24, .ref q25, .ref q26, .ref q27, .ref q28, ii_v 0, ii_v 0, ii_v 0, ii_v 0, ii_v 50, ii_v 15, .ref q29, .null, ii_v 0, ii_v 0, ii_v 0, ii_v 0, ii_v 0, ii_v 0, .null, .null, ii_v 0, ii_v 0])) := by rw [e_w61_60, aw_up_o _ (by omega)]; exact k_a
  replace k_q1 : w61_60 q1 = some (aw_ia E 4) := by rw [e_w61_60, aw_up_o _ (by omega)]; exact k_q1
  replace k_q2 : w61_60 q2 = some (aw_ia E 4) := by rw [e_w61_60, aw_up_o _ (by omega)]; exact k_q2
  replace k_q3 : w61_60 q3 = some (aw_ia E 4) := by rw [e_w61_60, aw_up_o _ (by omega)]; exact k_q3
  replace k_q4 : w61_60 q4 = some (aw_ia E 4) := by rw [e_w61_60, aw_up_o _ (by omega)]; exact k_q4
  replace k_q5 : w61_60 q5 = some (aw_ia E 4) := by rw [e_w61_60, aw_up_o _ (by omega)]; exact k_q5
  replace k_q6 : w61_60 q6 = some (aw_ia E 4) := by rw [e_w61_60, aw_up_o _ (by omega)]; exact k_q6
  replace k_q7 : w61_60 q7 = some (aw_ia E 4) := by rw [e_w61_60, aw_up_o _ (by omega)]; exact k_q7
  replace k_q8 : w61_60 q8 = some (aw_ia E 4) := by rw [e_w61_60, aw_up_o _ (by omega)]; exact k_q8
  replace k_q9 : w61_60 q9 = some (aw_ia E 4) := by rw [e_w61_60, aw_up_o _ (by omega)]; exact k_q9
  replace k_q10 : w61_60 q10 = some (aw_ia E 4) := by rw [e_w61_60, aw_up_o _ (by omega)]; exact k_q10
  replace k_q11 : w61_60 q11 = some (aw_ia E 4) := by rw [e_w61_60, aw_up_o _ (by omega)]; exact k_q11
  replace k_q12 : w61_60 q12 = some (aw_ia E 32) := by rw [e_w61_60, aw_up_o _ (by omega)]; exact k_q12
  replace k_q13 : w61_60 q13 = some (aw_ia E 31) := by rw [e_w61_60, aw_up_o _ (by omega)]; exact k_q13
  replace k_q14 : w61_60 q14 = some (aw_ia E 31) := by rw [e_w61_60, aw_up_o _ (by omega)]; exact k_q14
  replace k_q15 : w61_60 q15 = some (aw_ia E 31) := by rw [e_w61_60, aw_up_o _ (by omega)]; exact k_q15
  replace k_q16 : w61_60 q16 = some (aw_ia E 31) := by rw [e_w61_60, aw_up_o _ (by omega)]; exact k_q16
  replace k_q17 : w61_60 q17 = some (aw_ia E 31) := by rw [e_w61_60, aw_up_o _ (by omega)]; exact k_q17
  replace k_q18 : w61_60 q18 = some (aw_ia E 31) := by rw [e_w61_60, aw_up_o _ (by omega)]; exact k_q18
  replace k_q19 : w61_60 q19 = some (aw_ia E 31) := by rw [e_w61_60, aw_up_o _ (by omega)]; exact k_q19
  replace k_q20 : w61_60 q20 = some (aw_ia E 31) := by rw [e_w61_60, aw_up_o _ (by omega)]; exact k_q20
  replace k_q21 : w61_60 q21 = some (aw_ia E 31) := by rw [e_w61_60, aw_up_o _ (by omega)]; exact k_q21
  replace k_q22 : w61_60 q22 = some (aw_ia E 31) := by rw [e_w61_60, aw_up_o _ (by omega)]; exact k_q22
  replace k_q23 : w61_60 q23 = some (aw_ca E 31) := by rw [e_w61_60, aw_up_o _ (by omega)]; exact k_q23
  replace k_q24 : w61_60 q24 = some (aw_ca E 31) := by rw [e_w61_60, aw_up_o _ (by omega)]; exact k_q24
  replace k_q25 : w61_60 q25 = some (aw_ia E 60) := by rw [e_w61_60, aw_up_o _ (by omega)]; exact k_q25
  replace k_q26 : w61_60 q26 = some (aw_ia E 60) := by rw [e_w61_60, aw_up_o _ (by omega)]; exact k_q26
  replace k_q27 : w61_60 q27 = some (aw_ia E 60) := by rw [e_w61_60, aw_up_o _ (by omega)]; exact k_q27
  replace k_q28 : w61_60 q28 = some (aw_ia E 60) := by rw [e_w61_60, aw_up_o _ (by omega)]; exact k_q28
  replace k_q29 : w61_60 q29 = some (aw_ia E 8) := by rw [e_w61_60, aw_up_o _ (by omega)]; exact k_q29
  have k_q30 : w61_60 q30 = some (aw_ia E 8) := by rw [e_w61_60]; exact aw_up_s _ _ _
  refine w_putF (ci := 11) (i := 36) C iw_X10 rfl (by decide) rfl tyX10 tyX10_ok nmX10 rfl hnm rfl fl_X10_105 k_a (Nat.le_of_ble_eq_true rfl) rfl rfl dX10_init_242 ?_
  obtain ⟨w62_61, e_w62_61⟩ : ∃ x : Nat → Option va_E, x = aw_up w61_60 a (.inr (11, [ii_v 0, .ref q1, .ref q2, .ref q3, .ref q4, .ref q5, .ref q6, .ref q7, .ref q8, .ref q9, .ref q10, .ref q11, .ref q12, .ref q13, .ref q14, .ref q15, .ref q16, .ref q17, .ref q18, .ref q19, .ref q20, .ref q21, .ref q22, .ref q23, .ref q24, .ref q25, .ref q26, .ref q27, .ref q28, ii_v 0, ii_v 0, ii_v 0, ii_v 0, ii_v 50, ii_v 15, .ref q29, .null, ii_v 0, ii_v 0, ii_v 0, ii_v 0, ii_v 0, ii_v 0, .null, .null, ii_v 0, ii_v 0].set 36 (.ref q30))) := ⟨_, rfl⟩
  rw [← e_w62_61]
  replace k_q1 : w62_61 q1 = some (aw_ia E 4) := by rw [e_w62_61, aw_up_o _ (by omega)]; exact k_q1
  replace k_q2 : w62_61 q2 = some (aw_ia E 4) := by rw [e_w62_61, aw_up_o _ (by omega)]; exact k_q2
  replace k_q3 : w62_61 q3 = some (aw_ia E 4) := by rw [e_w62_61, aw_up_o _ (by omega)]; exact k_q3
  replace k_q4 : w62_61 q4 = some (aw_ia E 4) := by rw [e_w62_61, aw_up_o _ (by omega)]; exact k_q4
  replace k_q5 : w62_61 q5 = some (aw_ia E 4) := by rw [e_w62_61, aw_up_o _ (by omega)]; exact k_q5
  replace k_q6 : w62_61 q6 = some (aw_ia E 4) := by rw [e_w62_61, aw_up_o _ (by omega)]; exact k_q6
  replace k_q7 : w62_61 q7 = some (aw_ia E 4) := by rw [e_w62_61, aw_up_o _ (by omega)]; exact k_q7
  replace k_q8 : w62_61 q8 = some (aw_ia E 4) := by rw [e_w62_61, aw_up_o _ (by omega)]; exact k_q8
  replace k_q9 : w62_61 q9 = some (aw_ia E 4) := by rw [e_w62_61, aw_up_o _ (by omega)]; exact k_q9
  replace k_q10 : w62_61 q10 = some (aw_ia E 4) := by rw [e_w62_61, aw_up_o _ (by omega)]; exact k_q10
  replace k_q11 : w62_61 q11 = some (aw_ia E 4) := by rw [e_w62_61, aw_up_o _ (by omega)]; exact k_q11
  replace k_q12 : w62_61 q12 = some (aw_ia E 32) := by rw [e_w62_61, aw_up_o _ (by omega)]; exact k_q12
  replace k_q13 : w62_61 q13 = some (aw_ia E 31) := by rw [e_w62_61, aw_up_o _ (by omega)]; exact k_q13
  replace k_q14 : w62_61 q14 = some (aw_ia E 31) := by rw [e_w62_61, aw_up_o _ (by omega)]; exact k_q14
  replace k_q15 : w62_61 q15 = some (aw_ia E 31) := by rw [e_w62_61, aw_up_o _ (by omega)]; exact k_q15
  replace k_q16 : w62_61 q16 = some (aw_ia E 31) := by rw [e_w62_61, aw_up_o _ (by omega)]; exact k_q16
  replace k_q17 : w62_61 q17 = some (aw_ia E 31) := by rw [e_w62_61, aw_up_o _ (by omega)]; exact k_q17
  replace k_q18 : w62_61 q18 = some (aw_ia E 31) := by rw [e_w62_61, aw_up_o _ (by omega)]; exact k_q18
  replace k_q19 : w62_61 q19 = some (aw_ia E 31) := by rw [e_w62_61, aw_up_o _ (by omega)]; exact k_q19
  replace k_q20 : w62_61 q20 = some (aw_ia E 31) := by rw [e_w62_61, aw_up_o _ (by omega)]; exact k_q20
  replace k_q21 : w62_61 q21 = some (aw_ia E 31) := by rw [e_w62_61, aw_up_o _ (by omega)]; exact k_q21
  replace k_q22 : w62_61 q22 = some (aw_ia E 31) := by rw [e_w62_61, aw_up_o _ (by omega)]; exact k_q22
  replace k_q23 : w62_61 q23 = some (aw_ca E 31) := by rw [e_w62_61, aw_up_o _ (by omega)]; exact k_q23
  replace k_q24 : w62_61 q24 = some (aw_ca E 31) := by rw [e_w62_61, aw_up_o _ (by omega)]; exact k_q24
  replace k_q25 : w62_61 q25 = some (aw_ia E 60) := by rw [e_w62_61, aw_up_o _ (by omega)]; exact k_q25
  replace k_q26 : w62_61 q26 = some (aw_ia E 60) := by rw [e_w62_61, aw_up_o _ (by omega)]; exact k_q26
  replace k_q27 : w62_61 q27 = some (aw_ia E 60) := by rw [e_w62_61, aw_up_o _ (by omega)]; exact k_q27
  replace k_q28 : w62_61 q28 = some (aw_ia E 60) := by rw [e_w62_61, aw_up_o _ (by omega)]; exact k_q28
  replace k_q29 : w62_61 q29 = some (aw_ia E 8) := by rw [e_w62_61, aw_up_o _ (by omega)]; exact k_q29
  replace k_q30 : w62_61 q30 = some (aw_ia E 8) := by rw [e_w62_61, aw_up_o _ (by omega)]; exact k_q30
  replace k_a : w62_61 a = some (.inr (11, [ii_v 0, .ref q1, .ref q2, .ref q3, .ref q4, .ref q5, .ref q6, .ref q7, .ref q8, .ref q9, .ref q10, .ref q11, .ref q12, .ref q13, .ref q14, .ref q15, .ref q16, .ref q17, .ref q18, .ref q19, .ref q20, .ref q21, .ref q22, .ref q23, .ref q24, .ref q25, .ref q26, .ref q27, .ref q28, ii_v 0, ii_v 0, ii_v 0, ii_v 0, ii_v 50, ii_v 15, .ref q29, .ref q30, ii_v 0, ii_v 0, ii_v 0, ii_v 0, ii_v 0, ii_v 0, .null, .null, ii_v 0, ii_v 0])) := by rw [e_w62_61]; exact aw_up_s _ _ _
  refine w_aload_n C dX10_init_245 rfl ?_
  refine w_bipush C dX10_init_246 (by decide) ?_
  refine w_newi (N := 8) C rfl (by decide) (by omega) dX10_init_248 ?_
  intro q31 t_q31
  have l_q30_q31 : q30 < q31 := t_q31 _ _ k_q30
  obtain ⟨w63_62, e_w63_62⟩ : ∃ x : Nat → Option va_E, x = aw_up w62_61 q31 (aw_ia E 8) := ⟨_, rfl⟩
  rw [← e_w63_62]
  replace k_a : w63_62 a = some (.inr (11, [ii_v 0, .ref q1, .ref q2, .ref q3, .ref q4, .ref q5, .ref q6, .ref q7, .ref q8, .ref q9, .ref q10, .ref q11, .ref q12, .ref q13, .ref q14, .ref q15, .ref q16, .ref q17, .ref q18, .ref q19, .ref q20, .ref q21, .ref q22, .ref q23, .ref q24, .ref q25, .ref q26, .ref q27, .ref q28, ii_v 0, ii_v 0, ii_v 0, ii_v 0, ii_v 50, ii_v 15, .ref q29, .ref q30, ii_v 0, ii_v 0, ii_v 0, ii_v 0, ii_v 0, ii_v 0, .null, .null, ii_v 0, ii_v 0])) := by rw [e_w63_62, aw_up_o _ (by omega)]; exact k_a
  replace k_q1 : w63_62 q1 = some (aw_ia E 4) := by rw [e_w63_62, aw_up_o _ (by omega)]; exact k_q1
  replace k_q2 : w63_62 q2 = some (aw_ia E 4) := by rw [e_w63_62, aw_up_o _ (by omega)]; exact k_q2
  replace k_q3 : w63_62 q3 = some (aw_ia E 4) := by rw [e_w63_62, aw_up_o _ (by omega)]; exact k_q3
  replace k_q4 : w63_62 q4 = some (aw_ia E 4) := by rw [e_w63_62, aw_up_o _ (by omega)]; exact k_q4
  replace k_q5 : w63_62 q5 = some (aw_ia E 4) := by rw [e_w63_62, aw_up_o _ (by omega)]; exact k_q5
  replace k_q6 : w63_62 q6 = some (aw_ia E 4) := by rw [e_w63_62, aw_up_o _ (by omega)]; exact k_q6
  replace k_q7 : w63_62 q7 = some (aw_ia E 4) := by rw [e_w63_62, aw_up_o _ (by omega)]; exact k_q7
  replace k_q8 : w63_62 q8 = some (aw_ia E 4) := by rw [e_w63_62, aw_up_o _ (by omega)]; exact k_q8
  replace k_q9 : w63_62 q9 = some (aw_ia E 4) := by rw [e_w63_62, aw_up_o _ (by omega)]; exact k_q9
  replace k_q10 : w63_62 q10 = some (aw_ia E 4) := by rw [e_w63_62, aw_up_o _ (by omega)]; exact k_q10
  replace k_q11 : w63_62 q11 = some (aw_ia E 4) := by rw [e_w63_62, aw_up_o _ (by omega)]; exact k_q11
  replace k_q12 : w63_62 q12 = some (aw_ia E 32) := by rw [e_w63_62, aw_up_o _ (by omega)]; exact k_q12
  replace k_q13 : w63_62 q13 = some (aw_ia E 31) := by rw [e_w63_62, aw_up_o _ (by omega)]; exact k_q13
  replace k_q14 : w63_62 q14 = some (aw_ia E 31) := by rw [e_w63_62, aw_up_o _ (by omega)]; exact k_q14
  replace k_q15 : w63_62 q15 = some (aw_ia E 31) := by rw [e_w63_62, aw_up_o _ (by omega)]; exact k_q15
  replace k_q16 : w63_62 q16 = some (aw_ia E 31) := by rw [e_w63_62, aw_up_o _ (by omega)]; exact k_q16
  replace k_q17 : w63_62 q17 = some (aw_ia E 31) := by rw [e_w63_62, aw_up_o _ (by omega)]; exact k_q17
  replace k_q18 : w63_62 q18 = some (aw_ia E 31) := by rw [e_w63_62, aw_up_o _ (by omega)]; exact k_q18
  replace k_q19 : w63_62 q19 = some (aw_ia E 31) := by rw [e_w63_62, aw_up_o _ (by omega)]; exact k_q19
  replace k_q20 : w63_62 q20 = some (aw_ia E 31) := by rw [e_w63_62, aw_up_o _ (by omega)]; exact k_q20
  replace k_q21 : w63_62 q21 = some (aw_ia E 31) := by rw [e_w63_62, aw_up_o _ (by omega)]; exact k_q21
  replace k_q22 : w63_62 q22 = some (aw_ia E 31) := by rw [e_w63_62, aw_up_o _ (by omega)]; exact k_q22
  replace k_q23 : w63_62 q23 = some (aw_ca E 31) := by rw [e_w63_62, aw_up_o _ (by omega)]; exact k_q23
  replace k_q24 : w63_62 q24 = some (aw_ca E 31) := by rw [e_w63_62, aw_up_o _ (by omega)]; exact k_q24
  replace k_q25 : w63_62 q25 = some (aw_ia E 60) := by rw [e_w63_62, aw_up_o _ (by omega)]; exact k_q25
  replace k_q26 : w63_62 q26 = some (aw_ia E 60) := by rw [e_w63_62, aw_up_o _ (by omega)]; exact k_q26
  replace k_q27 : w63_62 q27 = some (aw_ia E 60) := by rw [e_w63_62, aw_up_o _ (by omega)]; exact k_q27
  replace k_q28 : w63_62 q28 = some (aw_ia E 60) := by rw [e_w63_62, aw_up_o _ (by omega)]; exact k_q28
  replace k_q29 : w63_62 q29 = some (aw_ia E 8) := by rw [e_w63_62, aw_up_o _ (by omega)]; exact k_q29
  replace k_q30 : w63_62 q30 = some (aw_ia E 8) := by rw [e_w63_62, aw_up_o _ (by omega)]; exact k_q30
  have k_q31 : w63_62 q31 = some (aw_ia E 8) := by rw [e_w63_62]; exact aw_up_s _ _ _
  refine w_putF (ci := 11) (i := 43) C iw_X10 rfl (by decide) rfl tyX10 tyX10_ok nmX10 rfl hnm rfl fl_X10_108 k_a (Nat.le_of_ble_eq_true rfl) rfl rfl dX10_init_250 ?_
  obtain ⟨w64_63, e_w64_63⟩ : ∃ x : Nat → Option va_E, x = aw_up w63_62 a (.inr (11, [ii_v 0, .ref q1, .ref q2, .ref q3, .ref q4, .ref q5, .ref q6, .ref q7, .ref q8, .ref q9, .ref q10, .ref q11, .ref q12, .ref q13, .ref q14, .ref q15, .ref q16, .ref q17, .ref q18, .ref q19, .ref q20, .ref q21, .ref q22, .ref q23, .ref q24, .ref q25, .ref q26, .ref q27, .ref q28, ii_v 0, ii_v 0, ii_v 0, ii_v 0, ii_v 50, ii_v 15, .ref q29, .ref q30, ii_v 0, ii_v 0, ii_v 0, ii_v 0, ii_v 0, ii_v 0, .null, .null, ii_v 0, ii_v 0].set 43 (.ref q31))) := ⟨_, rfl⟩
  rw [← e_w64_63]
  replace k_q1 : w64_63 q1 = some (aw_ia E 4) := by rw [e_w64_63, aw_up_o _ (by omega)]; exact k_q1
  replace k_q2 : w64_63 q2 = some (aw_ia E 4) := by rw [e_w64_63, aw_up_o _ (by omega)]; exact k_q2
  replace k_q3 : w64_63 q3 = some (aw_ia E 4) := by rw [e_w64_63, aw_up_o _ (by omega)]; exact k_q3
  replace k_q4 : w64_63 q4 = some (aw_ia E 4) := by rw [e_w64_63, aw_up_o _ (by omega)]; exact k_q4
  replace k_q5 : w64_63 q5 = some (aw_ia E 4) := by rw [e_w64_63, aw_up_o _ (by omega)]; exact k_q5
  replace k_q6 : w64_63 q6 = some (aw_ia E 4) := by rw [e_w64_63, aw_up_o _ (by omega)]; exact k_q6
  replace k_q7 : w64_63 q7 = some (aw_ia E 4) := by rw [e_w64_63, aw_up_o _ (by omega)]; exact k_q7
  replace k_q8 : w64_63 q8 = some (aw_ia E 4) := by rw [e_w64_63, aw_up_o _ (by omega)]; exact k_q8
  replace k_q9 : w64_63 q9 = some (aw_ia E 4) := by rw [e_w64_63, aw_up_o _ (by omega)]; exact k_q9
  replace k_q10 : w64_63 q10 = some (aw_ia E 4) := by rw [e_w64_63, aw_up_o _ (by omega)]; exact k_q10
  replace k_q11 : w64_63 q11 = some (aw_ia E 4) := by rw [e_w64_63, aw_up_o _ (by omega)]; exact k_q11
  replace k_q12 : w64_63 q12 = some (aw_ia E 32) := by rw [e_w64_63, aw_up_o _ (by omega)]; exact k_q12
  replace k_q13 : w64_63 q13 = some (aw_ia E 31) := by rw [e_w64_63, aw_up_o _ (by omega)]; exact k_q13
  replace k_q14 : w64_63 q14 = some (aw_ia E 31) := by rw [e_w64_63, aw_up_o _ (by omega)]; exact k_q14
  replace k_q15 : w64_63 q15 = some (aw_ia E 31) := by rw [e_w64_63, aw_up_o _ (by omega)]; exact k_q15
  replace k_q16 : w64_63 q16 = some (aw_ia E 31) := by rw [e_w64_63, aw_up_o _ (by omega)]; exact k_q16
  replace k_q17 : w64_63 q17 = some (aw_ia E 31) := by rw [e_w64_63, aw_up_o _ (by omega)]; exact k_q17
  replace k_q18 : w64_63 q18 = some (aw_ia E 31) := by rw [e_w64_63, aw_up_o _ (by omega)]; exact k_q18
  replace k_q19 : w64_63 q19 = some (aw_ia E 31) := by rw [e_w64_63, aw_up_o _ (by omega)]; exact k_q19
  replace k_q20 : w64_63 q20 = some (aw_ia E 31) := by rw [e_w64_63, aw_up_o _ (by omega)]; exact k_q20
  replace k_q21 : w64_63 q21 = some (aw_ia E 31) := by rw [e_w64_63, aw_up_o _ (by omega)]; exact k_q21
  replace k_q22 : w64_63 q22 = some (aw_ia E 31) := by rw [e_w64_63, aw_up_o _ (by omega)]; exact k_q22
  replace k_q23 : w64_63 q23 = some (aw_ca E 31) := by rw [e_w64_63, aw_up_o _ (by omega)]; exact k_q23
  replace k_q24 : w64_63 q24 = some (aw_ca E 31) := by rw [e_w64_63, aw_up_o _ (by omega)]; exact k_q24
  replace k_q25 : w64_63 q25 = some (aw_ia E 60) := by rw [e_w64_63, aw_up_o _ (by omega)]; exact k_q25
  replace k_q26 : w64_63 q26 = some (aw_ia E 60) := by rw [e_w64_63, aw_up_o _ (by omega)]; exact k_q26
  replace k_q27 : w64_63 q27 = some (aw_ia E 60) := by rw [e_w64_63, aw_up_o _ (by omega)]; exact k_q27
  replace k_q28 : w64_63 q28 = some (aw_ia E 60) := by rw [e_w64_63, aw_up_o _ (by omega)]; exact k_q28
  replace k_q29 : w64_63 q29 = some (aw_ia E 8) := by rw [e_w64_63, aw_up_o _ (by omega)]; exact k_q29
  replace k_q30 : w64_63 q30 = some (aw_ia E 8) := by rw [e_w64_63, aw_up_o _ (by omega)]; exact k_q30
  replace k_q31 : w64_63 q31 = some (aw_ia E 8) := by rw [e_w64_63, aw_up_o _ (by omega)]; exact k_q31
  replace k_a : w64_63 a = some (.inr (11, [ii_v 0, .ref q1, .ref q2, .ref q3, .ref q4, .ref q5, .ref q6, .ref q7, .ref q8, .ref q9, .ref q10, .ref q11, .ref q12, .ref q13, .ref q14, .ref q15, .ref q16, .ref q17, .ref q18, .ref q19, .ref q20, .ref q21, .ref q22, .ref q23, .ref q24, .ref q25, .ref q26, .ref q27, .ref q28, ii_v 0, ii_v 0, ii_v 0, ii_v 0, ii_v 50, ii_v 15, .ref q29, .ref q30, ii_v 0, ii_v 0, ii_v 0, ii_v 0, ii_v 0, ii_v 0, .ref q31, .null, ii_v 0, ii_v 0])) := by rw [e_w64_63]; exact aw_up_s _ _ _
  refine w_aload_n C dX10_init_253 rfl ?_
  refine w_bipush C dX10_init_254 (by decide) ?_
  refine w_newi (N := 8) C rfl (by decide) (by omega) dX10_init_256 ?_
  intro q32 t_q32
  have l_q31_q32 : q31 < q32 := t_q32 _ _ k_q31
  obtain ⟨w65_64, e_w65_64⟩ : ∃ x : Nat → Option va_E, x = aw_up w64_63 q32 (aw_ia E 8) := ⟨_, rfl⟩
  rw [← e_w65_64]
  replace k_a : w65_64 a = some (.inr (11, [ii_v 0, .ref q1, .ref q2, .ref q3, .ref q4, .ref q5, .ref q6, .ref q7, .ref q8, .ref q9, .ref q10, .ref q11, .ref q12, .ref q13, .ref q14, .ref q15, .ref q16, .ref q17, .ref q18, .ref q19, .ref q20, .ref q21, .ref q22, .ref q23, .ref q24, .ref q25, .ref q26, .ref q27, .ref q28, ii_v 0, ii_v 0, ii_v 0, ii_v 0, ii_v 50, ii_v 15, .ref q29, .ref q30, ii_v 0, ii_v 0, ii_v 0, ii_v 0, ii_v 0, ii_v 0, .ref q31, .null, ii_v 0, ii_v 0])) := by rw [e_w65_64, aw_up_o _ (by omega)]; exact k_a
  replace k_q1 : w65_64 q1 = some (aw_ia E 4) := by rw [e_w65_64, aw_up_o _ (by omega)]; exact k_q1
  replace k_q2 : w65_64 q2 = some (aw_ia E 4) := by rw [e_w65_64, aw_up_o _ (by omega)]; exact k_q2
  replace k_q3 : w65_64 q3 = some (aw_ia E 4) := by rw [e_w65_64, aw_up_o _ (by omega)]; exact k_q3
  replace k_q4 : w65_64 q4 = some (aw_ia E 4) := by rw [e_w65_64, aw_up_o _ (by omega)]; exact k_q4
  replace k_q5 : w65_64 q5 = some (aw_ia E 4) := by rw [e_w65_64, aw_up_o _ (by omega)]; exact k_q5
  replace k_q6 : w65_64 q6 = some (aw_ia E 4) := by rw [e_w65_64, aw_up_o _ (by omega)]; exact k_q6
  replace k_q7 : w65_64 q7 = some (aw_ia E 4) := by rw [e_w65_64, aw_up_o _ (by omega)]; exact k_q7
  replace k_q8 : w65_64 q8 = some (aw_ia E 4) := by rw [e_w65_64, aw_up_o _ (by omega)]; exact k_q8
  replace k_q9 : w65_64 q9 = some (aw_ia E 4) := by rw [e_w65_64, aw_up_o _ (by omega)]; exact k_q9
  replace k_q10 : w65_64 q10 = some (aw_ia E 4) := by rw [e_w65_64, aw_up_o _ (by omega)]; exact k_q10
  replace k_q11 : w65_64 q11 = some (aw_ia E 4) := by rw [e_w65_64, aw_up_o _ (by omega)]; exact k_q11
  replace k_q12 : w65_64 q12 = some (aw_ia E 32) := by rw [e_w65_64, aw_up_o _ (by omega)]; exact k_q12
  replace k_q13 : w65_64 q13 = some (aw_ia E 31) := by rw [e_w65_64, aw_up_o _ (by omega)]; exact k_q13
  replace k_q14 : w65_64 q14 = some (aw_ia E 31) := by rw [e_w65_64, aw_up_o _ (by omega)]; exact k_q14
  replace k_q15 : w65_64 q15 = some (aw_ia E 31) := by rw [e_w65_64, aw_up_o _ (by omega)]; exact k_q15
  replace k_q16 : w65_64 q16 = some (aw_ia E 31) := by rw [e_w65_64, aw_up_o _ (by omega)]; exact k_q16
  replace k_q17 : w65_64 q17 = some (aw_ia E 31) := by rw [e_w65_64, aw_up_o _ (by omega)]; exact k_q17
  replace k_q18 : w65_64 q18 = some (aw_ia E 31) := by rw [e_w65_64, aw_up_o _ (by omega)]; exact k_q18
  replace k_q19 : w65_64 q19 = some (aw_ia E 31) := by rw [e_w65_64, aw_up_o _ (by omega)]; exact k_q19
  replace k_q20 : w65_64 q20 = some (aw_ia E 31) := by rw [e_w65_64, aw_up_o _ (by omega)]; exact k_q20
  replace k_q21 : w65_64 q21 = some (aw_ia E 31) := by rw [e_w65_64, aw_up_o _ (by omega)]; exact k_q21
  replace k_q22 : w65_64 q22 = some (aw_ia E 31) := by rw [e_w65_64, aw_up_o _ (by omega)]; exact k_q22
  replace k_q23 : w65_64 q23 = some (aw_ca E 31) := by rw [e_w65_64, aw_up_o _ (by omega)]; exact k_q23
  replace k_q24 : w65_64 q24 = some (aw_ca E 31) := by rw [e_w65_64, aw_up_o _ (by omega)]; exact k_q24
  replace k_q25 : w65_64 q25 = some (aw_ia E 60) := by rw [e_w65_64, aw_up_o _ (by omega)]; exact k_q25
  replace k_q26 : w65_64 q26 = some (aw_ia E 60) := by rw [e_w65_64, aw_up_o _ (by omega)]; exact k_q26
  replace k_q27 : w65_64 q27 = some (aw_ia E 60) := by rw [e_w65_64, aw_up_o _ (by omega)]; exact k_q27
  replace k_q28 : w65_64 q28 = some (aw_ia E 60) := by rw [e_w65_64, aw_up_o _ (by omega)]; exact k_q28
  replace k_q29 : w65_64 q29 = some (aw_ia E 8) := by rw [e_w65_64, aw_up_o _ (by omega)]; exact k_q29
  replace k_q30 : w65_64 q30 = some (aw_ia E 8) := by rw [e_w65_64, aw_up_o _ (by omega)]; exact k_q30
  replace k_q31 : w65_64 q31 = some (aw_ia E 8) := by rw [e_w65_64, aw_up_o _ (by omega)]; exact k_q31
  have k_q32 : w65_64 q32 = some (aw_ia E 8) := by rw [e_w65_64]; exact aw_up_s _ _ _
  refine w_putF (ci := 11) (i := 44) C iw_X10 rfl (by decide) rfl tyX10 tyX10_ok nmX10 rfl hnm rfl fl_X10_111 k_a (Nat.le_of_ble_eq_true rfl) rfl rfl dX10_init_258 ?_
  obtain ⟨w66_65, e_w66_65⟩ : ∃ x : Nat → Option va_E, x = aw_up w65_64 a (.inr (11, [ii_v 0, .ref q1, .ref q2, .ref q3, .ref q4, .ref q5, .ref q6, .ref q7, .ref q8, .ref q9, .ref q10, .ref q11, .ref q12, .ref q13, .ref q14, .ref q15, .ref q16, .ref q17, .ref q18, .ref q19, .ref q20, .ref q21, .ref q22, .ref q23, .ref q24, .ref q25, .ref q26, .ref q27, .ref q28, ii_v 0, ii_v 0, ii_v 0, ii_v 0, ii_v 50, ii_v 15, .ref q29, .ref q30, ii_v 0, ii_v 0, ii_v 0, ii_v 0, ii_v 0, ii_v 0, .ref q31, .null, ii_v 0, ii_v 0].set 44 (.ref q32))) := ⟨_, rfl⟩
  rw [← e_w66_65]
  replace k_q1 : w66_65 q1 = some (aw_ia E 4) := by rw [e_w66_65, aw_up_o _ (by omega)]; exact k_q1
  replace k_q2 : w66_65 q2 = some (aw_ia E 4) := by rw [e_w66_65, aw_up_o _ (by omega)]; exact k_q2
  replace k_q3 : w66_65 q3 = some (aw_ia E 4) := by rw [e_w66_65, aw_up_o _ (by omega)]; exact k_q3
  replace k_q4 : w66_65 q4 = some (aw_ia E 4) := by rw [e_w66_65, aw_up_o _ (by omega)]; exact k_q4
  replace k_q5 : w66_65 q5 = some (aw_ia E 4) := by rw [e_w66_65, aw_up_o _ (by omega)]; exact k_q5
  replace k_q6 : w66_65 q6 = some (aw_ia E 4) := by rw [e_w66_65, aw_up_o _ (by omega)]; exact k_q6
  replace k_q7 : w66_65 q7 = some (aw_ia E 4) := by rw [e_w66_65, aw_up_o _ (by omega)]; exact k_q7
  replace k_q8 : w66_65 q8 = some (aw_ia E 4) := by rw [e_w66_65, aw_up_o _ (by omega)]; exact k_q8
  replace k_q9 : w66_65 q9 = some (aw_ia E 4) := by rw [e_w66_65, aw_up_o _ (by omega)]; exact k_q9
  replace k_q10 : w66_65 q10 = some (aw_ia E 4) := by rw [e_w66_65, aw_up_o _ (by omega)]; exact k_q10
  replace k_q11 : w66_65 q11 = some (aw_ia E 4) := by rw [e_w66_65, aw_up_o _ (by omega)]; exact k_q11
  replace k_q12 : w66_65 q12 = some (aw_ia E 32) := by rw [e_w66_65, aw_up_o _ (by omega)]; exact k_q12
  replace k_q13 : w66_65 q13 = some (aw_ia E 31) := by rw [e_w66_65, aw_up_o _ (by omega)]; exact k_q13
  replace k_q14 : w66_65 q14 = some (aw_ia E 31) := by rw [e_w66_65, aw_up_o _ (by omega)]; exact k_q14
  replace k_q15 : w66_65 q15 = some (aw_ia E 31) := by rw [e_w66_65, aw_up_o _ (by omega)]; exact k_q15
  replace k_q16 : w66_65 q16 = some (aw_ia E 31) := by rw [e_w66_65, aw_up_o _ (by omega)]; exact k_q16
  replace k_q17 : w66_65 q17 = some (aw_ia E 31) := by rw [e_w66_65, aw_up_o _ (by omega)]; exact k_q17
  replace k_q18 : w66_65 q18 = some (aw_ia E 31) := by rw [e_w66_65, aw_up_o _ (by omega)]; exact k_q18
  replace k_q19 : w66_65 q19 = some (aw_ia E 31) := by rw [e_w66_65, aw_up_o _ (by omega)]; exact k_q19
  replace k_q20 : w66_65 q20 = some (aw_ia E 31) := by rw [e_w66_65, aw_up_o _ (by omega)]; exact k_q20
  replace k_q21 : w66_65 q21 = some (aw_ia E 31) := by rw [e_w66_65, aw_up_o _ (by omega)]; exact k_q21
  replace k_q22 : w66_65 q22 = some (aw_ia E 31) := by rw [e_w66_65, aw_up_o _ (by omega)]; exact k_q22
  replace k_q23 : w66_65 q23 = some (aw_ca E 31) := by rw [e_w66_65, aw_up_o _ (by omega)]; exact k_q23
  replace k_q24 : w66_65 q24 = some (aw_ca E 31) := by rw [e_w66_65, aw_up_o _ (by omega)]; exact k_q24
  replace k_q25 : w66_65 q25 = some (aw_ia E 60) := by rw [e_w66_65, aw_up_o _ (by omega)]; exact k_q25
  replace k_q26 : w66_65 q26 = some (aw_ia E 60) := by rw [e_w66_65, aw_up_o _ (by omega)]; exact k_q26
  replace k_q27 : w66_65 q27 = some (aw_ia E 60) := by rw [e_w66_65, aw_up_o _ (by omega)]; exact k_q27
  replace k_q28 : w66_65 q28 = some (aw_ia E 60) := by rw [e_w66_65, aw_up_o _ (by omega)]; exact k_q28
  replace k_q29 : w66_65 q29 = some (aw_ia E 8) := by rw [e_w66_65, aw_up_o _ (by omega)]; exact k_q29
  replace k_q30 : w66_65 q30 = some (aw_ia E 8) := by rw [e_w66_65, aw_up_o _ (by omega)]; exact k_q30
  replace k_q31 : w66_65 q31 = some (aw_ia E 8) := by rw [e_w66_65, aw_up_o _ (by omega)]; exact k_q31
  replace k_q32 : w66_65 q32 = some (aw_ia E 8) := by rw [e_w66_65, aw_up_o _ (by omega)]; exact k_q32
  replace k_a : w66_65 a = some (.inr (11, [ii_v 0, .ref q1, .ref q2, .ref q3, .ref q4, .ref q5, .ref q6, .ref q7, .ref q8, .ref q9, .ref q10, .ref q11, .ref q12, .ref q13, .ref q14, .ref q15, .ref q16, .ref q17, .ref q18, .ref q19, .ref q20, .ref q21, .ref q22, .ref q23, .ref q24, .ref q25, .ref q26, .ref q27, .ref q28, ii_v 0, ii_v 0, ii_v 0, ii_v 0, ii_v 50, ii_v 15, .ref q29, .ref q30, ii_v 0, ii_v 0, ii_v 0, ii_v 0, ii_v 0, ii_v 0, .ref q31, .ref q32, ii_v 0, ii_v 0])) := by rw [e_w66_65]; exact aw_up_s _ _ _
  refine w_vret C ?_ (by omega) (by omega) dX10_init_261
  rw [hPost]
  exact ⟨rfl, q1, q2, q3, q4, q5, q6, q7, q8, q9, q10, q11, q12, q13, q14, q15, q16, q17, q18, q19, q20, q21, q22, q23, q24, q25, q26, q27, q28, q29, q30, q31, q32, t0, (by omega), (by omega), (by omega), (by omega), (by omega), (by omega), (by omega), (by omega), (by omega), (by omega), (by omega), (by omega), (by omega), (by omega), (by omega), (by omega), (by omega), (by omega), (by omega), (by omega), (by omega), (by omega), (by omega), (by omega), (by omega), (by omega), (by omega), (by omega), (by omega), (by omega), (by omega), k_q1, k_q2, k_q3, k_q4, k_q5, k_q6, k_q7, k_q8, k_q9, k_q10, k_q11, k_q12, k_q13, k_q14, k_q15, k_q16, k_q17, k_q18, k_q19, k_q20, k_q21, k_q22, k_q23, k_q24, k_q25, k_q26, k_q27, k_q28, k_q29, k_q30, k_q31, k_q32, k_a, fun b h_a h_q1 h_q2 h_q3 h_q4 h_q5 h_q6 h_q7 h_q8 h_q9 h_q10 h_q11 h_q12 h_q13 h_q14 h_q15 h_q16 h_q17 h_q18 h_q19 h_q20 h_q21 h_q22 h_q23 h_q24 h_q25 h_q26 h_q27 h_q28 h_q29 h_q30 h_q31 h_q32 => by rw [e_w66_65, aw_up_o _ h_a, e_w65_64, aw_up_o _ h_q32, e_w64_63, aw_up_o _ h_a, e_w63_62, aw_up_o _ h_q31, e_w62_61, aw_up_o _ h_a, e_w61_60, aw_up_o _ h_q30, e_w60_59, aw_up_o _ h_a, e_w59_58, aw_up_o _ h_q29, e_w58_57, aw_up_o _ h_a, e_w57_56, aw_up_o _ h_a, e_w56_55, aw_up_o _ h_a, e_w55_54, aw_up_o _ h_q28, e_w54_53, aw_up_o _ h_a, e_w53_52, aw_up_o _ h_q27, e_w52_51, aw_up_o _ h_a, e_w51_50, aw_up_o _ h_q26, e_w50_49, aw_up_o _ h_a, e_w49_48, aw_up_o _ h_q25, e_w48_47, aw_up_o _ h_a, e_w47_46, aw_up_o _ h_q24, e_w46_45, aw_up_o _ h_a, e_w45_44, aw_up_o _ h_q23, e_w44_43, aw_up_o _ h_a, e_w43_42, aw_up_o _ h_q22, e_w42_41, aw_up_o _ h_a, e_w41_40, aw_up_o _ h_q21, e_w40_39, aw_up_o _ h_a, e_w39_38, aw_up_o _ h_q20, e_w38_37, aw_up_o _ h_a, e_w37_36, aw_up_o _ h_q19, e_w36_35, aw_up_o _ h_a, e_w35_34, aw_up_o _ h_q18, e_w34_33, aw_up_o _ h_a, e_w33_32, aw_up_o _ h_q17, e_w32_31, aw_up_o _ h_a, e_w31_30, aw_up_o _ h_q16, e_w30_29, aw_up_o _ h_a, e_w29_28, aw_up_o _ h_q15, e_w28_27, aw_up_o _ h_a, e_w27_26, aw_up_o _ h_q14, e_w26_25, aw_up_o _ h_a, e_w25_24, aw_up_o _ h_q13, e_w24_23, aw_up_o _ h_a, e_w23_22, aw_up_o _ h_q12, e_w22_21, aw_up_o _ h_a, e_w21_20, aw_up_o _ h_q11, e_w20_19, aw_up_o _ h_a, e_w19_18, aw_up_o _ h_q10, e_w18_17, aw_up_o _ h_a, e_w17_16, aw_up_o _ h_q9, e_w16_15, aw_up_o _ h_a, e_w15_14, aw_up_o _ h_q8, e_w14_13, aw_up_o _ h_a, e_w13_12, aw_up_o _ h_q7, e_w12_11, aw_up_o _ h_a, e_w11_10, aw_up_o _ h_q6, e_w10_9, aw_up_o _ h_a, e_w9_8, aw_up_o _ h_q5, e_w8_7, aw_up_o _ h_a, e_w7_6, aw_up_o _ h_q4, e_w6_5, aw_up_o _ h_a, e_w5_4, aw_up_o _ h_q3, e_w4_3, aw_up_o _ h_a, e_w3_2, aw_up_o _ h_q2, e_w2_1, aw_up_o _ h_a, e_w1_0, aw_up_o _ h_q1]⟩
