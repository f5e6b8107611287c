/-! Buses drive; the journal; stops are made. -/
def dr_1 (f : Nat → Nat → Int) (o : Nat) (x y : Int) : Nat → Nat → Int :=
  if f o 6 = x then ii_up f o 7 (f o 7 + (if f o 7 < y then 1 else -1)) else ii_up f o 6 (f o 6 + (if f o 6 < x then 1 else -1))
/-- the bus o drives one step to the place -/
def dr_T (f : Nat → Nat → Int) (o : Nat) (x y : Int) : Nat → Nat → Int :=
  if f o 9 = 0 then ii_up (ii_up (ii_up (ii_up (dr_1 f o x y) o 8 (f o 8 - 1)) o 10 (f o 10 + 1)) o 12 (f o 12 + f o 9)) o 11 (f o 11 + 1)
  else ii_up (ii_up (ii_up (dr_1 f o x y) o 8 (f o 8 - 1)) o 10 (f o 10 + 1)) o 12 (f o 12 + f o 9)
/-- no entry ahead is of x -/
def jf_b (J : Nat → Int) (x : Int) : Nat → Bool
  | 0 => true
  | k + 1 => jf_b J x k && decide (¬ J k = x)
theorem jf_no {J : Nat → Int} {x : Int} {k : Nat} : ∀ {e : Nat}, k < e → J k = x → jf_b J x e = false
  | e + 1, h, h2 => by
    rw [jf_b]
    rcases Nat.lt_or_ge k e with q | q
    · rw [jf_no q h2, Bool.false_and]
    · rw [show e = k by omega, decide_eq_false (fun h => h h2), Bool.and_false]
/-- the empty distance that the first k entries show: it, the distance of the last entry, the riders -/
def jd_f (f v : Nat → Nat → Int) (b : Int) : Nat → Int × Int × Int
  | 0 => (0, 0, 0)
  | k + 1 => if f 5 k = b then ((jd_f f v b k).1 + (if (jd_f f v b k).2.2 = 0 then f 8 k - (jd_f f v b k).2.1 else 0), f 8 k, (jd_f f v b k).2.2 + (if jf_b (f 6) (f 6 k) k = true then v 2 (f 6 k).toNat else -(v 2 (f 6 k).toNat))) else jd_f f v b k
section JD
variable {a t m u q : Int} {P : Prop}
theorem jd_1 [Decidable P] (h : m = 0) (h2 : P) : ((a + (if m = 0 then u - t else 0), u, m + (if P then q else -q)) : Int × Int × Int) = (a + (u - t), u, m + q) := by rw [if_pos h, if_pos h2]
theorem jd_2 [Decidable P] (h : m = 0) (h2 : ¬ P) : ((a + (if m = 0 then u - t else 0), u, m + (if P then q else -q)) : Int × Int × Int) = (a + (u - t), u, m + -q) := by rw [if_pos h, if_neg h2]
theorem jd_3 [Decidable P] (h : ¬ m = 0) (h2 : P) : ((a + (if m = 0 then u - t else 0), u, m + (if P then q else -q)) : Int × Int × Int) = (a + 0, u, m + q) := by rw [if_neg h, if_pos h2]
theorem jd_4 [Decidable P] (h : ¬ m = 0) (h2 : ¬ P) : ((a + (if m = 0 then u - t else 0), u, m + (if P then q else -q)) : Int × Int × Int) = (a + 0, u, m + -q) := by rw [if_neg h, if_neg h2]
end JD
set_option maxRecDepth 20000 in
set_option maxHeartbeats 2000000 in
theorem c_drive {l : Launch} {E : ab_E} {base : Nat} (hl : l.stackTraces = false) {ad : Nat → Nat} (f : Nat → Nat → Int) (w : Nat × Nat × Int64 × UInt64) {o : Nat} (ho : ab_ob 4 w.1 w.2.1 o = some (2, [none, none, none, none, none, some (o + 10), none, none, none, none, none, none, none])) (hB : pb_B f o) (x y : Int) (hx : 0 ≤ x ∧ x ≤ 20) (hy : 0 ≤ y ∧ y ≤ 20) : ab_M l E base yX1_driveTowards cX1_driveTowards 3 none 1 0 0 [.ref (ad o), ii_v x, ii_v y] ab_x4 ad (f, w) (ab_V ab_x4 ad (dr_T f o x y, w)) := by
  obtain ⟨Post, hPost⟩ : ∃ P : ab_P, P = (ab_V ab_x4 ad (dr_T f o x y, w)) := ⟨_, rfl⟩
  rw [← hPost]
  refine ab_of RX1 [(0, .ref (ad o)), (1, ii_v x), (2, ii_v y)] hl (by decide) rfl (Nat.le_of_ble_eq_true rfl) rfl ?_
  intro p e s m args below meth c C T0 hnm
  obtain ⟨hB1, hB3, hB4, hB6, hB7, hB8, hB9⟩ := id hB
  refine a_aload_n C dX1_driveTowards_0 rfl ?_
  refine a_get (ci := 2) (i := 6) (v := ii_v (f o 6)) C iw_X1 rfl (by decide) rfl fl_X1_32 ho rfl dX1_driveTowards_1 ?_
  refine a_iload_n C dX1_driveTowards_4 rfl ?_
  refine a_icmp_eq (tgt := 33) C dX1_driveTowards_5 rfl (by unfold ii_B; omega) (by unfold ii_B; omega) (fun h5 => ?_) (fun h5 => ?_)
  · skip
    refine a_aload_n C dX1_driveTowards_33 rfl ?_
    refine a_dup C dX1_driveTowards_34 rfl ?_
    refine a_get (ci := 2) (i := 7) (v := ii_v (f o 7)) C iw_X1 rfl (by decide) rfl fl_X1_35 ho rfl dX1_driveTowards_35 ?_
    refine a_iload_n C dX1_driveTowards_38 rfl ?_
    refine a_aload_n C dX1_driveTowards_39 rfl ?_
    refine a_get (ci := 2) (i := 7) (v := ii_v (f o 7)) C iw_X1 rfl (by decide) rfl fl_X1_35 ho rfl dX1_driveTowards_40 ?_
    refine a_icmp_le (tgt := 50) C dX1_driveTowards_43 rfl (by unfold ii_B; omega) (by unfold ii_B; omega) (fun h43 => ?_) (fun h43 => ?_)
    · skip
      refine a_iconst C dX1_driveTowards_50 ?_
      refine a_iadd C dX1_driveTowards_51 ?_
      refine a_put (ci := 2) (i := 7) C iw_X1 rfl (by decide) rfl tyX1 tyX1_ok nmX1 rfl rfl fl_X1_35 ho rfl rfl rfl dX1_driveTowards_52 ?_
      obtain ⟨g1, eg1⟩ : ∃ F : Nat → Nat → Int, F = ii_up f o 7 ((f o 7) + (-1)) := ⟨_, rfl⟩
      rw [← eg1]
      refine a_aload_n C dX1_driveTowards_55 rfl ?_
      refine a_dup C dX1_driveTowards_56 rfl ?_
      refine a_get (ci := 2) (i := 8) (v := ii_v (g1 o 8)) C iw_X1 rfl (by decide) rfl fl_X1_38 ho rfl dX1_driveTowards_57 ?_
      refine a_top (w := ii_v (f o 8)) (congrArg (fun q => ii_v q) (show g1 o 8 = (f o 8) by rw [eg1, ii_up_k _ _ (by first | decide | omega)])) ?_
      refine a_iconst C dX1_driveTowards_60 ?_
      refine a_isub C dX1_driveTowards_61 ?_
      refine a_put (ci := 2) (i := 8) C iw_X1 rfl (by decide) rfl tyX1 tyX1_ok nmX1 rfl rfl fl_X1_38 ho rfl rfl rfl dX1_driveTowards_62 ?_
      obtain ⟨g2, eg2⟩ : ∃ F : Nat → Nat → Int, F = ii_up g1 o 8 ((f o 8) - 1) := ⟨_, rfl⟩
      rw [← eg2]
      refine a_aload_n C dX1_driveTowards_65 rfl ?_
      refine a_dup C dX1_driveTowards_66 rfl ?_
      refine a_get (ci := 2) (i := 10) (v := ii_v (g2 o 10)) C iw_X1 rfl (by decide) rfl fl_X1_41 ho rfl dX1_driveTowards_67 ?_
      refine a_top (w := ii_v (f o 10)) (congrArg (fun q => ii_v q) (show g2 o 10 = (f o 10) by rw [eg2, ii_up_k _ _ (by first | decide | omega), eg1, ii_up_k _ _ (by first | decide | omega)])) ?_
      refine a_iconst C dX1_driveTowards_70 ?_
      refine a_iadd C dX1_driveTowards_71 ?_
      refine a_put (ci := 2) (i := 10) C iw_X1 rfl (by decide) rfl tyX1 tyX1_ok nmX1 rfl rfl fl_X1_41 ho rfl rfl rfl dX1_driveTowards_72 ?_
      obtain ⟨g3, eg3⟩ : ∃ F : Nat → Nat → Int, F = ii_up g2 o 10 ((f o 10) + 1) := ⟨_, rfl⟩
      rw [← eg3]
      refine a_aload_n C dX1_driveTowards_75 rfl ?_
      refine a_dup C dX1_driveTowards_76 rfl ?_
      refine a_get (ci := 2) (i := 12) (v := ii_v (g3 o 12)) C iw_X1 rfl (by decide) rfl fl_X1_44 ho rfl dX1_driveTowards_77 ?_
      refine a_top (w := ii_v (f o 12)) (congrArg (fun q => ii_v q) (show g3 o 12 = (f o 12) by rw [eg3, ii_up_k _ _ (by first | decide | omega), eg2, ii_up_k _ _ (by first | decide | omega), eg1, ii_up_k _ _ (by first | decide | omega)])) ?_
      refine a_aload_n C dX1_driveTowards_80 rfl ?_
      refine a_get (ci := 2) (i := 9) (v := ii_v (g3 o 9)) C iw_X1 rfl (by decide) rfl fl_X1_47 ho rfl dX1_driveTowards_81 ?_
      refine a_top (w := ii_v (f o 9)) (congrArg (fun q => ii_v q) (show g3 o 9 = (f o 9) by rw [eg3, ii_up_k _ _ (by first | decide | omega), eg2, ii_up_k _ _ (by first | decide | omega), eg1, ii_up_k _ _ (by first | decide | omega)])) ?_
      refine a_iadd C dX1_driveTowards_84 ?_
      refine a_put (ci := 2) (i := 12) C iw_X1 rfl (by decide) rfl tyX1 tyX1_ok nmX1 rfl rfl fl_X1_44 ho rfl rfl rfl dX1_driveTowards_85 ?_
      obtain ⟨g4, eg4⟩ : ∃ F : Nat → Nat → Int, F = ii_up g3 o 12 ((f o 12) + (f o 9)) := ⟨_, rfl⟩
      rw [← eg4]
      refine a_aload_n C dX1_driveTowards_88 rfl ?_
      refine a_get (ci := 2) (i := 9) (v := ii_v (g4 o 9)) C iw_X1 rfl (by decide) rfl fl_X1_47 ho rfl dX1_driveTowards_89 ?_
      refine a_top (w := ii_v (f o 9)) (congrArg (fun q => ii_v q) (show g4 o 9 = (f o 9) by rw [eg4, ii_up_k _ _ (by first | decide | omega), eg3, ii_up_k _ _ (by first | decide | omega), eg2, ii_up_k _ _ (by first | decide | omega), eg1, ii_up_k _ _ (by first | decide | omega)])) ?_
      refine a_if_ne (tgt := 105) C dX1_driveTowards_92 rfl (by unfold ii_B; omega) (fun h92 => ?_) (fun h92 => ?_)
      · skip
        refine a_vret C ?_ (by decide) (by decide) dX1_driveTowards_105
        rw [hPost]
        refine ⟨rfl, rfl, rfl, ?_⟩
        subst eg4 eg3 eg2 eg1
        refine congrArg (fun q => (q, w)) ?_
        unfold dr_T dr_1; (first | rw [if_pos (show f o 9 = 0 by first | assumption | omega)] | rw [if_neg (show ¬ (f o 9 = 0) by first | assumption | omega)]); (first | rw [if_pos (show f o 6 = x by first | assumption | omega)] | rw [if_neg (show ¬ (f o 6 = x) by first | assumption | omega)]); (first | rw [if_pos (show f o 7 < y by omega)] | rw [if_neg (show ¬ f o 7 < y by omega)] | skip); (first | rw [if_pos (show f o 6 < x by omega)] | rw [if_neg (show ¬ f o 6 < x by omega)] | skip)
      · skip
        refine a_aload_n C dX1_driveTowards_95 rfl ?_
        refine a_dup C dX1_driveTowards_96 rfl ?_
        refine a_get (ci := 2) (i := 11) (v := ii_v (g4 o 11)) C iw_X1 rfl (by decide) rfl fl_X1_50 ho rfl dX1_driveTowards_97 ?_
        refine a_top (w := ii_v (f o 11)) (congrArg (fun q => ii_v q) (show g4 o 11 = (f o 11) by rw [eg4, ii_up_k _ _ (by first | decide | omega), eg3, ii_up_k _ _ (by first | decide | omega), eg2, ii_up_k _ _ (by first | decide | omega), eg1, ii_up_k _ _ (by first | decide | omega)])) ?_
        refine a_iconst C dX1_driveTowards_100 ?_
        refine a_iadd C dX1_driveTowards_101 ?_
        refine a_put (ci := 2) (i := 11) C iw_X1 rfl (by decide) rfl tyX1 tyX1_ok nmX1 rfl rfl fl_X1_50 ho rfl rfl rfl dX1_driveTowards_102 ?_
        obtain ⟨g5, eg5⟩ : ∃ F : Nat → Nat → Int, F = ii_up g4 o 11 ((f o 11) + 1) := ⟨_, rfl⟩
        rw [← eg5]
        refine a_vret C ?_ (by decide) (by decide) dX1_driveTowards_105
        rw [hPost]
        refine ⟨rfl, rfl, rfl, ?_⟩
        subst eg5 eg4 eg3 eg2 eg1
        refine congrArg (fun q => (q, w)) ?_
        unfold dr_T dr_1; (first | rw [if_pos (show f o 9 = 0 by first | assumption | omega)] | rw [if_neg (show ¬ (f o 9 = 0) by first | assumption | omega)]); (first | rw [if_pos (show f o 6 = x by first | assumption | omega)] | rw [if_neg (show ¬ (f o 6 = x) by first | assumption | omega)]); (first | rw [if_pos (show f o 7 < y by omega)] | rw [if_neg (show ¬ f o 7 < y by omega)] | skip); (first | rw [if_pos (show f o 6 < x by omega)] | rw [if_neg (show ¬ f o 6 < x by omega)] | skip)
    · skip
      refine a_iconst C dX1_driveTowards_46 ?_
      refine a_goto (tgt := 51) C dX1_driveTowards_47 rfl ?_
      refine a_iadd C dX1_driveTowards_51 ?_
      refine a_put (ci := 2) (i := 7) C iw_X1 rfl (by decide) rfl tyX1 tyX1_ok nmX1 rfl rfl fl_X1_35 ho rfl rfl rfl dX1_driveTowards_52 ?_
      obtain ⟨g6, eg6⟩ : ∃ F : Nat → Nat → Int, F = ii_up f o 7 ((f o 7) + 1) := ⟨_, rfl⟩
      rw [← eg6]
      refine a_aload_n C dX1_driveTowards_55 rfl ?_
      refine a_dup C dX1_driveTowards_56 rfl ?_
      refine a_get (ci := 2) (i := 8) (v := ii_v (g6 o 8)) C iw_X1 rfl (by decide) rfl fl_X1_38 ho rfl dX1_driveTowards_57 ?_
      refine a_top (w := ii_v (f o 8)) (congrArg (fun q => ii_v q) (show g6 o 8 = (f o 8) by rw [eg6, ii_up_k _ _ (by first | decide | omega)])) ?_
      refine a_iconst C dX1_driveTowards_60 ?_
      refine a_isub C dX1_driveTowards_61 ?_
      refine a_put (ci := 2) (i := 8) C iw_X1 rfl (by decide) rfl tyX1 tyX1_ok nmX1 rfl rfl fl_X1_38 ho rfl rfl rfl dX1_driveTowards_62 ?_
      obtain ⟨g7, eg7⟩ : ∃ F : Nat → Nat → Int, F = ii_up g6 o 8 ((f o 8) - 1) := ⟨_, rfl⟩
      rw [← eg7]
      refine a_aload_n C dX1_driveTowards_65 rfl ?_
      refine a_dup C dX1_driveTowards_66 rfl ?_
      refine a_get (ci := 2) (i := 10) (v := ii_v (g7 o 10)) C iw_X1 rfl (by decide) rfl fl_X1_41 ho rfl dX1_driveTowards_67 ?_
      refine a_top (w := ii_v (f o 10)) (congrArg (fun q => ii_v q) (show g7 o 10 = (f o 10) by rw [eg7, ii_up_k _ _ (by first | decide | omega), eg6, ii_up_k _ _ (by first | decide | omega)])) ?_
      refine a_iconst C dX1_driveTowards_70 ?_
      refine a_iadd C dX1_driveTowards_71 ?_
      refine a_put (ci := 2) (i := 10) C iw_X1 rfl (by decide) rfl tyX1 tyX1_ok nmX1 rfl rfl fl_X1_41 ho rfl rfl rfl dX1_driveTowards_72 ?_
      obtain ⟨g8, eg8⟩ : ∃ F : Nat → Nat → Int, F = ii_up g7 o 10 ((f o 10) + 1) := ⟨_, rfl⟩
      rw [← eg8]
      refine a_aload_n C dX1_driveTowards_75 rfl ?_
      refine a_dup C dX1_driveTowards_76 rfl ?_
      refine a_get (ci := 2) (i := 12) (v := ii_v (g8 o 12)) C iw_X1 rfl (by decide) rfl fl_X1_44 ho rfl dX1_driveTowards_77 ?_
      refine a_top (w := ii_v (f o 12)) (congrArg (fun q => ii_v q) (show g8 o 12 = (f o 12) by rw [eg8, ii_up_k _ _ (by first | decide | omega), eg7, ii_up_k _ _ (by first | decide | omega), eg6, ii_up_k _ _ (by first | decide | omega)])) ?_
      refine a_aload_n C dX1_driveTowards_80 rfl ?_
      refine a_get (ci := 2) (i := 9) (v := ii_v (g8 o 9)) C iw_X1 rfl (by decide) rfl fl_X1_47 ho rfl dX1_driveTowards_81 ?_
      refine a_top (w := ii_v (f o 9)) (congrArg (fun q => ii_v q) (show g8 o 9 = (f o 9) by rw [eg8, ii_up_k _ _ (by first | decide | omega), eg7, ii_up_k _ _ (by first | decide | omega), eg6, ii_up_k _ _ (by first | decide | omega)])) ?_
      refine a_iadd C dX1_driveTowards_84 ?_
      refine a_put (ci := 2) (i := 12) C iw_X1 rfl (by decide) rfl tyX1 tyX1_ok nmX1 rfl rfl fl_X1_44 ho rfl rfl rfl dX1_driveTowards_85 ?_
      obtain ⟨g9, eg9⟩ : ∃ F : Nat → Nat → Int, F = ii_up g8 o 12 ((f o 12) + (f o 9)) := ⟨_, rfl⟩
      rw [← eg9]
      refine a_aload_n C dX1_driveTowards_88 rfl ?_
      refine a_get (ci := 2) (i := 9) (v := ii_v (g9 o 9)) C iw_X1 rfl (by decide) rfl fl_X1_47 ho rfl dX1_driveTowards_89 ?_
      refine a_top (w := ii_v (f o 9)) (congrArg (fun q => ii_v q) (show g9 o 9 = (f o 9) by rw [eg9, ii_up_k _ _ (by first | decide | omega), eg8, ii_up_k _ _ (by first | decide | omega), eg7, ii_up_k _ _ (by first | decide | omega), eg6, ii_up_k _ _ (by first | decide | omega)])) ?_
      refine a_if_ne (tgt := 105) C dX1_driveTowards_92 rfl (by unfold ii_B; omega) (fun h92 => ?_) (fun h92 => ?_)
      · skip
        refine a_vret C ?_ (by decide) (by decide) dX1_driveTowards_105
        rw [hPost]
        refine ⟨rfl, rfl, rfl, ?_⟩
        subst eg9 eg8 eg7 eg6
        refine congrArg (fun q => (q, w)) ?_
        unfold dr_T dr_1; (first | rw [if_pos (show f o 9 = 0 by first | assumption | omega)] | rw [if_neg (show ¬ (f o 9 = 0) by first | assumption | omega)]); (first | rw [if_pos (show f o 6 = x by first | assumption | omega)] | rw [if_neg (show ¬ (f o 6 = x) by first | assumption | omega)]); (first | rw [if_pos (show f o 7 < y by omega)] | rw [if_neg (show ¬ f o 7 < y by omega)] | skip); (first | rw [if_pos (show f o 6 < x by omega)] | rw [if_neg (show ¬ f o 6 < x by omega)] | skip)
      · skip
        refine a_aload_n C dX1_driveTowards_95 rfl ?_
        refine a_dup C dX1_driveTowards_96 rfl ?_
        refine a_get (ci := 2) (i := 11) (v := ii_v (g9 o 11)) C iw_X1 rfl (by decide) rfl fl_X1_50 ho rfl dX1_driveTowards_97 ?_
        refine a_top (w := ii_v (f o 11)) (congrArg (fun q => ii_v q) (show g9 o 11 = (f o 11) by rw [eg9, ii_up_k _ _ (by first | decide | omega), eg8, ii_up_k _ _ (by first | decide | omega), eg7, ii_up_k _ _ (by first | decide | omega), eg6, ii_up_k _ _ (by first | decide | omega)])) ?_
        refine a_iconst C dX1_driveTowards_100 ?_
        refine a_iadd C dX1_driveTowards_101 ?_
        refine a_put (ci := 2) (i := 11) C iw_X1 rfl (by decide) rfl tyX1 tyX1_ok nmX1 rfl rfl fl_X1_50 ho rfl rfl rfl dX1_driveTowards_102 ?_
        obtain ⟨g10, eg10⟩ : ∃ F : Nat → Nat → Int, F = ii_up g9 o 11 ((f o 11) + 1) := ⟨_, rfl⟩
        rw [← eg10]
        refine a_vret C ?_ (by decide) (by decide) dX1_driveTowards_105
        rw [hPost]
        refine ⟨rfl, rfl, rfl, ?_⟩
        subst eg10 eg9 eg8 eg7 eg6
        refine congrArg (fun q => (q, w)) ?_
        unfold dr_T dr_1; (first | rw [if_pos (show f o 9 = 0 by first | assumption | omega)] | rw [if_neg (show ¬ (f o 9 = 0) by first | assumption | omega)]); (first | rw [if_pos (show f o 6 = x by first | assumption | omega)] | rw [if_neg (show ¬ (f o 6 = x) by first | assumption | omega)]); (first | rw [if_pos (show f o 7 < y by omega)] | rw [if_neg (show ¬ f o 7 < y by omega)] | skip); (first | rw [if_pos (show f o 6 < x by omega)] | rw [if_neg (show ¬ f o 6 < x by omega)] | skip)
  · skip
    refine a_aload_n C dX1_driveTowards_8 rfl ?_
    refine a_dup C dX1_driveTowards_9 rfl ?_
    refine a_get (ci := 2) (i := 6) (v := ii_v (f o 6)) C iw_X1 rfl (by decide) rfl fl_X1_32 ho rfl dX1_driveTowards_10 ?_
    refine a_iload_n C dX1_driveTowards_13 rfl ?_
    refine a_aload_n C dX1_driveTowards_14 rfl ?_
    refine a_get (ci := 2) (i := 6) (v := ii_v (f o 6)) C iw_X1 rfl (by decide) rfl fl_X1_32 ho rfl dX1_driveTowards_15 ?_
    refine a_icmp_le (tgt := 25) C dX1_driveTowards_18 rfl (by unfold ii_B; omega) (by unfold ii_B; omega) (fun h18 => ?_) (fun h18 => ?_)
    · skip
      refine a_iconst C dX1_driveTowards_25 ?_
      refine a_iadd C dX1_driveTowards_26 ?_
      refine a_put (ci := 2) (i := 6) C iw_X1 rfl (by decide) rfl tyX1 tyX1_ok nmX1 rfl rfl fl_X1_32 ho rfl rfl rfl dX1_driveTowards_27 ?_
      obtain ⟨g11, eg11⟩ : ∃ F : Nat → Nat → Int, F = ii_up f o 6 ((f o 6) + (-1)) := ⟨_, rfl⟩
      rw [← eg11]
      refine a_goto (tgt := 55) C dX1_driveTowards_30 rfl ?_
      refine a_aload_n C dX1_driveTowards_55 rfl ?_
      refine a_dup C dX1_driveTowards_56 rfl ?_
      refine a_get (ci := 2) (i := 8) (v := ii_v (g11 o 8)) C iw_X1 rfl (by decide) rfl fl_X1_38 ho rfl dX1_driveTowards_57 ?_
      refine a_top (w := ii_v (f o 8)) (congrArg (fun q => ii_v q) (show g11 o 8 = (f o 8) by rw [eg11, ii_up_k _ _ (by first | decide | omega)])) ?_
      refine a_iconst C dX1_driveTowards_60 ?_
      refine a_isub C dX1_driveTowards_61 ?_
      refine a_put (ci := 2) (i := 8) C iw_X1 rfl (by decide) rfl tyX1 tyX1_ok nmX1 rfl rfl fl_X1_38 ho rfl rfl rfl dX1_driveTowards_62 ?_
      obtain ⟨g12, eg12⟩ : ∃ F : Nat → Nat → Int, F = ii_up g11 o 8 ((f o 8) - 1) := ⟨_, rfl⟩
      rw [← eg12]
      refine a_aload_n C dX1_driveTowards_65 rfl ?_
      refine a_dup C dX1_driveTowards_66 rfl ?_
      refine a_get (ci := 2) (i := 10) (v := ii_v (g12 o 10)) C iw_X1 rfl (by decide) rfl fl_X1_41 ho rfl dX1_driveTowards_67 ?_
      refine a_top (w := ii_v (f o 10)) (congrArg (fun q => ii_v q) (show g12 o 10 = (f o 10) by rw [eg12, ii_up_k _ _ (by first | decide | omega), eg11, ii_up_k _ _ (by first | decide | omega)])) ?_
      refine a_iconst C dX1_driveTowards_70 ?_
      refine a_iadd C dX1_driveTowards_71 ?_
      refine a_put (ci := 2) (i := 10) C iw_X1 rfl (by decide) rfl tyX1 tyX1_ok nmX1 rfl rfl fl_X1_41 ho rfl rfl rfl dX1_driveTowards_72 ?_
      obtain ⟨g13, eg13⟩ : ∃ F : Nat → Nat → Int, F = ii_up g12 o 10 ((f o 10) + 1) := ⟨_, rfl⟩
      rw [← eg13]
      refine a_aload_n C dX1_driveTowards_75 rfl ?_
      refine a_dup C dX1_driveTowards_76 rfl ?_
      refine a_get (ci := 2) (i := 12) (v := ii_v (g13 o 12)) C iw_X1 rfl (by decide) rfl fl_X1_44 ho rfl dX1_driveTowards_77 ?_
      refine a_top (w := ii_v (f o 12)) (congrArg (fun q => ii_v q) (show g13 o 12 = (f o 12) by rw [eg13, ii_up_k _ _ (by first | decide | omega), eg12, ii_up_k _ _ (by first | decide | omega), eg11, ii_up_k _ _ (by first | decide | omega)])) ?_
      refine a_aload_n C dX1_driveTowards_80 rfl ?_
      refine a_get (ci := 2) (i := 9) (v := ii_v (g13 o 9)) C iw_X1 rfl (by decide) rfl fl_X1_47 ho rfl dX1_driveTowards_81 ?_
      refine a_top (w := ii_v (f o 9)) (congrArg (fun q => ii_v q) (show g13 o 9 = (f o 9) by rw [eg13, ii_up_k _ _ (by first | decide | omega), eg12, ii_up_k _ _ (by first | decide | omega), eg11, ii_up_k _ _ (by first | decide | omega)])) ?_
      refine a_iadd C dX1_driveTowards_84 ?_
      refine a_put (ci := 2) (i := 12) C iw_X1 rfl (by decide) rfl tyX1 tyX1_ok nmX1 rfl rfl fl_X1_44 ho rfl rfl rfl dX1_driveTowards_85 ?_
      obtain ⟨g14, eg14⟩ : ∃ F : Nat → Nat → Int, F = ii_up g13 o 12 ((f o 12) + (f o 9)) := ⟨_, rfl⟩
      rw [← eg14]
      refine a_aload_n C dX1_driveTowards_88 rfl ?_
      refine a_get (ci := 2) (i := 9) (v := ii_v (g14 o 9)) C iw_X1 rfl (by decide) rfl fl_X1_47 ho rfl dX1_driveTowards_89 ?_
      refine a_top (w := ii_v (f o 9)) (congrArg (fun q => ii_v q) (show g14 o 9 = (f o 9) by rw [eg14, ii_up_k _ _ (by first | decide | omega), eg13, ii_up_k _ _ (by first | decide | omega), eg12, ii_up_k _ _ (by first | decide | omega), eg11, ii_up_k _ _ (by first | decide | omega)])) ?_
      refine a_if_ne (tgt := 105) C dX1_driveTowards_92 rfl (by unfold ii_B; omega) (fun h92 => ?_) (fun h92 => ?_)
      · skip
        refine a_vret C ?_ (by decide) (by decide) dX1_driveTowards_105
        rw [hPost]
        refine ⟨rfl, rfl, rfl, ?_⟩
        subst eg14 eg13 eg12 eg11
        refine congrArg (fun q => (q, w)) ?_
        unfold dr_T dr_1; (first | rw [if_pos (show f o 9 = 0 by first | assumption | omega)] | rw [if_neg (show ¬ (f o 9 = 0) by first | assumption | omega)]); (first | rw [if_pos (show f o 6 = x by first | assumption | omega)] | rw [if_neg (show ¬ (f o 6 = x) by first | assumption | omega)]); (first | rw [if_pos (show f o 7 < y by omega)] | rw [if_neg (show ¬ f o 7 < y by omega)] | skip); (first | rw [if_pos (show f o 6 < x by omega)] | rw [if_neg (show ¬ f o 6 < x by omega)] | skip)
      · skip
        refine a_aload_n C dX1_driveTowards_95 rfl ?_
        refine a_dup C dX1_driveTowards_96 rfl ?_
        refine a_get (ci := 2) (i := 11) (v := ii_v (g14 o 11)) C iw_X1 rfl (by decide) rfl fl_X1_50 ho rfl dX1_driveTowards_97 ?_
        refine a_top (w := ii_v (f o 11)) (congrArg (fun q => ii_v q) (show g14 o 11 = (f o 11) by rw [eg14, ii_up_k _ _ (by first | decide | omega), eg13, ii_up_k _ _ (by first | decide | omega), eg12, ii_up_k _ _ (by first | decide | omega), eg11, ii_up_k _ _ (by first | decide | omega)])) ?_
        refine a_iconst C dX1_driveTowards_100 ?_
        refine a_iadd C dX1_driveTowards_101 ?_
        refine a_put (ci := 2) (i := 11) C iw_X1 rfl (by decide) rfl tyX1 tyX1_ok nmX1 rfl rfl fl_X1_50 ho rfl rfl rfl dX1_driveTowards_102 ?_
        obtain ⟨g15, eg15⟩ : ∃ F : Nat → Nat → Int, F = ii_up g14 o 11 ((f o 11) + 1) := ⟨_, rfl⟩
        rw [← eg15]
        refine a_vret C ?_ (by decide) (by decide) dX1_driveTowards_105
        rw [hPost]
        refine ⟨rfl, rfl, rfl, ?_⟩
        subst eg15 eg14 eg13 eg12 eg11
        refine congrArg (fun q => (q, w)) ?_
        unfold dr_T dr_1; (first | rw [if_pos (show f o 9 = 0 by first | assumption | omega)] | rw [if_neg (show ¬ (f o 9 = 0) by first | assumption | omega)]); (first | rw [if_pos (show f o 6 = x by first | assumption | omega)] | rw [if_neg (show ¬ (f o 6 = x) by first | assumption | omega)]); (first | rw [if_pos (show f o 7 < y by omega)] | rw [if_neg (show ¬ f o 7 < y by omega)] | skip); (first | rw [if_pos (show f o 6 < x by omega)] | rw [if_neg (show ¬ f o 6 < x by omega)] | skip)
    · skip
      refine a_iconst C dX1_driveTowards_21 ?_
      refine a_goto (tgt := 26) C dX1_driveTowards_22 rfl ?_
      refine a_iadd C dX1_driveTowards_26 ?_
      refine a_put (ci := 2) (i := 6) C iw_X1 rfl (by decide) rfl tyX1 tyX1_ok nmX1 rfl rfl fl_X1_32 ho rfl rfl rfl dX1_driveTowards_27 ?_
      obtain ⟨g16, eg16⟩ : ∃ F : Nat → Nat → Int, F = ii_up f o 6 ((f o 6) + 1) := ⟨_, rfl⟩
      rw [← eg16]
      refine a_goto (tgt := 55) C dX1_driveTowards_30 rfl ?_
      refine a_aload_n C dX1_driveTowards_55 rfl ?_
      refine a_dup C dX1_driveTowards_56 rfl ?_
      refine a_get (ci := 2) (i := 8) (v := ii_v (g16 o 8)) C iw_X1 rfl (by decide) rfl fl_X1_38 ho rfl dX1_driveTowards_57 ?_
      refine a_top (w := ii_v (f o 8)) (congrArg (fun q => ii_v q) (show g16 o 8 = (f o 8) by rw [eg16, ii_up_k _ _ (by first | decide | omega)])) ?_
      refine a_iconst C dX1_driveTowards_60 ?_
      refine a_isub C dX1_driveTowards_61 ?_
      refine a_put (ci := 2) (i := 8) C iw_X1 rfl (by decide) rfl tyX1 tyX1_ok nmX1 rfl rfl fl_X1_38 ho rfl rfl rfl dX1_driveTowards_62 ?_
      obtain ⟨g17, eg17⟩ : ∃ F : Nat → Nat → Int, F = ii_up g16 o 8 ((f o 8) - 1) := ⟨_, rfl⟩
      rw [← eg17]
      refine a_aload_n C dX1_driveTowards_65 rfl ?_
      refine a_dup C dX1_driveTowards_66 rfl ?_
      refine a_get (ci := 2) (i := 10) (v := ii_v (g17 o 10)) C iw_X1 rfl (by decide) rfl fl_X1_41 ho rfl dX1_driveTowards_67 ?_
      refine a_top (w := ii_v (f o 10)) (congrArg (fun q => ii_v q) (show g17 o 10 = (f o 10) by rw [eg17, ii_up_k _ _ (by first | decide | omega), eg16, ii_up_k _ _ (by first | decide | omega)])) ?_
      refine a_iconst C dX1_driveTowards_70 ?_
      refine a_iadd C dX1_driveTowards_71 ?_
      refine a_put (ci := 2) (i := 10) C iw_X1 rfl (by decide) rfl tyX1 tyX1_ok nmX1 rfl rfl fl_X1_41 ho rfl rfl rfl dX1_driveTowards_72 ?_
      obtain ⟨g18, eg18⟩ : ∃ F : Nat → Nat → Int, F = ii_up g17 o 10 ((f o 10) + 1) := ⟨_, rfl⟩
      rw [← eg18]
      refine a_aload_n C dX1_driveTowards_75 rfl ?_
      refine a_dup C dX1_driveTowards_76 rfl ?_
      refine a_get (ci := 2) (i := 12) (v := ii_v (g18 o 12)) C iw_X1 rfl (by decide) rfl fl_X1_44 ho rfl dX1_driveTowards_77 ?_
      refine a_top (w := ii_v (f o 12)) (congrArg (fun q => ii_v q) (show g18 o 12 = (f o 12) by rw [eg18, ii_up_k _ _ (by first | decide | omega), eg17, ii_up_k _ _ (by first | decide | omega), eg16, ii_up_k _ _ (by first | decide | omega)])) ?_
      refine a_aload_n C dX1_driveTowards_80 rfl ?_
      refine a_get (ci := 2) (i := 9) (v := ii_v (g18 o 9)) C iw_X1 rfl (by decide) rfl fl_X1_47 ho rfl dX1_driveTowards_81 ?_
      refine a_top (w := ii_v (f o 9)) (congrArg (fun q => ii_v q) (show g18 o 9 = (f o 9) by rw [eg18, ii_up_k _ _ (by first | decide | omega), eg17, ii_up_k _ _ (by first | decide | omega), eg16, ii_up_k _ _ (by first | decide | omega)])) ?_
      refine a_iadd C dX1_driveTowards_84 ?_
      refine a_put (ci := 2) (i := 12) C iw_X1 rfl (by decide) rfl tyX1 tyX1_ok nmX1 rfl rfl fl_X1_44 ho rfl rfl rfl dX1_driveTowards_85 ?_
      obtain ⟨g19, eg19⟩ : ∃ F : Nat → Nat → Int, F = ii_up g18 o 12 ((f o 12) + (f o 9)) := ⟨_, rfl⟩
      rw [← eg19]
      refine a_aload_n C dX1_driveTowards_88 rfl ?_
      refine a_get (ci := 2) (i := 9) (v := ii_v (g19 o 9)) C iw_X1 rfl (by decide) rfl fl_X1_47 ho rfl dX1_driveTowards_89 ?_
      refine a_top (w := ii_v (f o 9)) (congrArg (fun q => ii_v q) (show g19 o 9 = (f o 9) by rw [eg19, ii_up_k _ _ (by first | decide | omega), eg18, ii_up_k _ _ (by first | decide | omega), eg17, ii_up_k _ _ (by first | decide | omega), eg16, ii_up_k _ _ (by first | decide | omega)])) ?_
      refine a_if_ne (tgt := 105) C dX1_driveTowards_92 rfl (by unfold ii_B; omega) (fun h92 => ?_) (fun h92 => ?_)
      · skip
        refine a_vret C ?_ (by decide) (by decide) dX1_driveTowards_105
        rw [hPost]
        refine ⟨rfl, rfl, rfl, ?_⟩
        subst eg19 eg18 eg17 eg16
        refine congrArg (fun q => (q, w)) ?_
        unfold dr_T dr_1; (first | rw [if_pos (show f o 9 = 0 by first | assumption | omega)] | rw [if_neg (show ¬ (f o 9 = 0) by first | assumption | omega)]); (first | rw [if_pos (show f o 6 = x by first | assumption | omega)] | rw [if_neg (show ¬ (f o 6 = x) by first | assumption | omega)]); (first | rw [if_pos (show f o 7 < y by omega)] | rw [if_neg (show ¬ f o 7 < y by omega)] | skip); (first | rw [if_pos (show f o 6 < x by omega)] | rw [if_neg (show ¬ f o 6 < x by omega)] | skip)
      · skip
        refine a_aload_n C dX1_driveTowards_95 rfl ?_
        refine a_dup C dX1_driveTowards_96 rfl ?_
        refine a_get (ci := 2) (i := 11) (v := ii_v (g19 o 11)) C iw_X1 rfl (by decide) rfl fl_X1_50 ho rfl dX1_driveTowards_97 ?_
        refine a_top (w := ii_v (f o 11)) (congrArg (fun q => ii_v q) (show g19 o 11 = (f o 11) by rw [eg19, ii_up_k _ _ (by first | decide | omega), eg18, ii_up_k _ _ (by first | decide | omega), eg17, ii_up_k _ _ (by first | decide | omega), eg16, ii_up_k _ _ (by first | decide | omega)])) ?_
        refine a_iconst C dX1_driveTowards_100 ?_
        refine a_iadd C dX1_driveTowards_101 ?_
        refine a_put (ci := 2) (i := 11) C iw_X1 rfl (by decide) rfl tyX1 tyX1_ok nmX1 rfl rfl fl_X1_50 ho rfl rfl rfl dX1_driveTowards_102 ?_
        obtain ⟨g20, eg20⟩ : ∃ F : Nat → Nat → Int, F = ii_up g19 o 11 ((f o 11) + 1) := ⟨_, rfl⟩
        rw [← eg20]
        refine a_vret C ?_ (by decide) (by decide) dX1_driveTowards_105
        rw [hPost]
        refine ⟨rfl, rfl, rfl, ?_⟩
        subst eg20 eg19 eg18 eg17 eg16
        refine congrArg (fun q => (q, w)) ?_
        unfold dr_T dr_1; (first | rw [if_pos (show f o 9 = 0 by first | assumption | omega)] | rw [if_neg (show ¬ (f o 9 = 0) by first | assumption | omega)]); (first | rw [if_pos (show f o 6 = x by first | assumption | omega)] | rw [if_neg (show ¬ (f o 6 = x) by first | assumption | omega)]); (first | rw [if_pos (show f o 7 < y by omega)] | rw [if_neg (show ¬ f o 7 < y by omega)] | skip); (first | rw [if_pos (show f o 6 < x by omega)] | rw [if_neg (show ¬ f o 6 < x by omega)] | skip)
set_option maxRecDepth 20000 in
set_option maxHeartbeats 2000000 in
theorem c_jwrite {l : Launch} {E : ab_E} {base : Nat} (hl : l.stackTraces = false) {ad : Nat → Nat} (f : Nat → Nat → Int) (w : Nat × Nat × Int64 × UInt64) (n : Nat) (hn : f 4 4 = (n : Int)) (h60 : n < 60) (b r t d : Int) : ab_M l E base yX4_write cX4_write 5 none 1 0 0 [.ref (ad 4), ii_v b, ii_v r, ii_v t, ii_v d] ab_x4 ad (f, w) (ab_V ab_x4 ad (ii_up (ii_up (ii_up (ii_up (ii_up f 5 n b) 6 n r) 7 n t) 8 n d) 4 4 ((n : Int) + 1), w)) := by
  obtain ⟨Post, hPost⟩ : ∃ P : ab_P, P = (ab_V ab_x4 ad (ii_up (ii_up (ii_up (ii_up (ii_up f 5 n b) 6 n r) 7 n t) 8 n d) 4 4 ((n : Int) + 1), w)) := ⟨_, rfl⟩
  rw [← hPost]
  refine ab_of RX4 [(0, .ref (ad 4)), (1, ii_v b), (2, ii_v r), (3, ii_v t), (4, ii_v d)] hl (by decide) rfl (Nat.le_of_ble_eq_true rfl) rfl ?_
  intro p e s m args below meth c C T0 hnm
  refine a_aload_n C dX4_write_0 rfl ?_
  refine a_get (ci := 5) (i := 4) (v := ii_v (f 4 4)) C iw_X4 rfl (by decide) rfl fl_X4_24 rfl rfl dX4_write_1 ?_
  refine a_top (w := ii_v ((n : Nat) : Int)) (congrArg (fun q => ii_v q) hn) ?_
  refine a_bipush C dX4_write_4 (by decide) ?_
  refine a_icmp_ge (tgt := 60) C dX4_write_6 rfl (by unfold ii_B; omega) (by unfold ii_B; omega) (fun h6 => ?_) (fun h6 => ?_)
  · skip
    omega
  · skip
    refine a_aload_n C dX4_write_9 rfl ?_
    refine a_get (ci := 5) (i := 0) (v := .ref (ad 5)) C iw_X4 rfl (by decide) rfl fl_X4_9 rfl rfl dX4_write_10 ?_
    refine a_aload_n C dX4_write_13 rfl ?_
    refine a_get (ci := 5) (i := 4) (v := ii_v (f 4 4)) C iw_X4 rfl (by decide) rfl fl_X4_24 rfl rfl dX4_write_14 ?_
    refine a_top (w := ii_v ((n : Nat) : Int)) (congrArg (fun q => ii_v q) hn) ?_
    refine a_iload_n C dX4_write_17 rfl ?_
    refine a_iast (o := 5) (N := 60) n C dX4_write_18 rfl (by omega) (by omega) (by decide) ?_
    obtain ⟨g1, eg1⟩ : ∃ F : Nat → Nat → Int, F = ii_up f 5 n b := ⟨_, rfl⟩
    rw [← eg1]
    refine a_aload_n C dX4_write_19 rfl ?_
    refine a_get (ci := 5) (i := 1) (v := .ref (ad 6)) C iw_X4 rfl (by decide) rfl fl_X4_15 rfl rfl dX4_write_20 ?_
    refine a_aload_n C dX4_write_23 rfl ?_
    refine a_get (ci := 5) (i := 4) (v := ii_v (g1 4 4)) C iw_X4 rfl (by decide) rfl fl_X4_24 rfl rfl dX4_write_24 ?_
    refine a_top (w := ii_v (f 4 4)) (congrArg (fun q => ii_v q) (show g1 4 4 = (f 4 4) by rw [eg1, ii_up_o _ _ _ (by omega)])) ?_
    refine a_top (w := ii_v ((n : Nat) : Int)) (congrArg (fun q => ii_v q) hn) ?_
    refine a_iload_n C dX4_write_27 rfl ?_
    refine a_iast (o := 6) (N := 60) n C dX4_write_28 rfl (by omega) (by omega) (by decide) ?_
    obtain ⟨g2, eg2⟩ : ∃ F : Nat → Nat → Int, F = ii_up g1 6 n r := ⟨_, rfl⟩
    rw [← eg2]
    refine a_aload_n C dX4_write_29 rfl ?_
    refine a_get (ci := 5) (i := 2) (v := .ref (ad 7)) C iw_X4 rfl (by decide) rfl fl_X4_18 rfl rfl dX4_write_30 ?_
    refine a_aload_n C dX4_write_33 rfl ?_
    refine a_get (ci := 5) (i := 4) (v := ii_v (g2 4 4)) C iw_X4 rfl (by decide) rfl fl_X4_24 rfl rfl dX4_write_34 ?_
    refine a_top (w := ii_v (f 4 4)) (congrArg (fun q => ii_v q) (show g2 4 4 = (f 4 4) by rw [eg2, ii_up_o _ _ _ (by omega), eg1, ii_up_o _ _ _ (by omega)])) ?_
    refine a_top (w := ii_v ((n : Nat) : Int)) (congrArg (fun q => ii_v q) hn) ?_
    refine a_iload_n C dX4_write_37 rfl ?_
    refine a_iast (o := 7) (N := 60) n C dX4_write_38 rfl (by omega) (by omega) (by decide) ?_
    obtain ⟨g3, eg3⟩ : ∃ F : Nat → Nat → Int, F = ii_up g2 7 n t := ⟨_, rfl⟩
    rw [← eg3]
    refine a_aload_n C dX4_write_39 rfl ?_
    refine a_get (ci := 5) (i := 3) (v := .ref (ad 8)) C iw_X4 rfl (by decide) rfl fl_X4_21 rfl rfl dX4_write_40 ?_
    refine a_aload_n C dX4_write_43 rfl ?_
    refine a_get (ci := 5) (i := 4) (v := ii_v (g3 4 4)) C iw_X4 rfl (by decide) rfl fl_X4_24 rfl rfl dX4_write_44 ?_
    refine a_top (w := ii_v (f 4 4)) (congrArg (fun q => ii_v q) (show g3 4 4 = (f 4 4) by rw [eg3, ii_up_o _ _ _ (by omega), eg2, ii_up_o _ _ _ (by omega), eg1, ii_up_o _ _ _ (by omega)])) ?_
    refine a_top (w := ii_v ((n : Nat) : Int)) (congrArg (fun q => ii_v q) hn) ?_
    refine a_iload C dX4_write_47 rfl ?_
    refine a_iast (o := 8) (N := 60) n C dX4_write_49 rfl (by omega) (by omega) (by decide) ?_
    obtain ⟨g4, eg4⟩ : ∃ F : Nat → Nat → Int, F = ii_up g3 8 n d := ⟨_, rfl⟩
    rw [← eg4]
    refine a_aload_n C dX4_write_50 rfl ?_
    refine a_dup C dX4_write_51 rfl ?_
    refine a_get (ci := 5) (i := 4) (v := ii_v (g4 4 4)) C iw_X4 rfl (by decide) rfl fl_X4_24 rfl rfl dX4_write_52 ?_
    refine a_top (w := ii_v (f 4 4)) (congrArg (fun q => ii_v q) (show g4 4 4 = (f 4 4) by rw [eg4, ii_up_o _ _ _ (by omega), eg3, ii_up_o _ _ _ (by omega), eg2, ii_up_o _ _ _ (by omega), eg1, ii_up_o _ _ _ (by omega)])) ?_
    refine a_top (w := ii_v ((n : Nat) : Int)) (congrArg (fun q => ii_v q) hn) ?_
    refine a_iconst C dX4_write_55 ?_
    refine a_iadd C dX4_write_56 ?_
    refine a_put (ci := 5) (i := 4) C iw_X4 rfl (by decide) rfl tyX4 tyX4_ok nmX4 rfl rfl fl_X4_24 rfl rfl rfl rfl dX4_write_57 ?_
    obtain ⟨g5, eg5⟩ : ∃ F : Nat → Nat → Int, F = ii_up g4 4 4 (((n : Nat) : Int) + 1) := ⟨_, rfl⟩
    rw [← eg5]
    refine a_vret C ?_ (by decide) (by decide) dX4_write_60
    rw [hPost]
    subst eg5 eg4 eg3 eg2 eg1
    exact ⟨rfl, rfl, rfl, rfl⟩
set_option maxRecDepth 20000 in
set_option maxHeartbeats 2000000 in
theorem c_jbusAt {l : Launch} {E : ab_E} {base : Nat} (hl : l.stackTraces = false) {ad : Nat → Nat} (f : Nat → Nat → Int) (w : Nat × Nat × Int64 × UInt64) (i : Int) (k : Nat) (hi : i = (k : Int)) (hk : k < 60) : ab_M l E base yX4_busAt cX4_busAt 2 (some .int) 1 0 0 [.ref (ad 4), ii_v i] ab_x4 ad (f, w) (ab_R (ii_v (f 5 k)) ab_x4 ad (f, w)) := by
  obtain ⟨Post, hPost⟩ : ∃ P : ab_P, P = (ab_R (ii_v (f 5 k)) ab_x4 ad (f, w)) := ⟨_, rfl⟩
  rw [← hPost]
  refine ab_of RX4 [(0, .ref (ad 4)), (1, ii_v i)] hl (by decide) rfl (Nat.le_of_ble_eq_true rfl) rfl ?_
  intro p e s m args below meth c C T0 hnm
  refine a_iload_n C dX4_busAt_0 rfl ?_
  refine a_if_lt (tgt := 22) C dX4_busAt_1 rfl (by unfold ii_B; omega) (fun h1 => ?_) (fun h1 => ?_)
  · skip
    omega
  · skip
    refine a_iload_n C dX4_busAt_4 rfl ?_
    refine a_aload_n C dX4_busAt_5 rfl ?_
    refine a_get (ci := 5) (i := 0) (v := .ref (ad 5)) C iw_X4 rfl (by decide) rfl fl_X4_9 rfl rfl dX4_busAt_6 ?_
    refine a_alen (o := 5) (N := 60) C dX4_busAt_9 rfl (Or.inl rfl) ?_
    refine a_icmp_ge (tgt := 22) C dX4_busAt_10 rfl (by unfold ii_B; omega) (by unfold ii_B; omega) (fun h10 => ?_) (fun h10 => ?_)
    · skip
      omega
    · skip
      refine a_aload_n C dX4_busAt_13 rfl ?_
      refine a_get (ci := 5) (i := 0) (v := .ref (ad 5)) C iw_X4 rfl (by decide) rfl fl_X4_9 rfl rfl dX4_busAt_14 ?_
      refine a_iload_n C dX4_busAt_17 rfl ?_
      refine a_iald (o := 5) (N := 60) k C dX4_busAt_18 rfl (by omega) (by omega) (by decide) ?_
      refine a_goto (tgt := 23) C dX4_busAt_19 rfl ?_
      refine a_iret C ?_ (by decide) (by decide) dX4_busAt_23
      rw [hPost]
      exact ⟨rfl, rfl, rfl, rfl⟩
set_option maxRecDepth 20000 in
set_option maxHeartbeats 2000000 in
theorem c_jrequestAt {l : Launch} {E : ab_E} {base : Nat} (hl : l.stackTraces = false) {ad : Nat → Nat} (f : Nat → Nat → Int) (w : Nat × Nat × Int64 × UInt64) (i : Int) (k : Nat) (hi : i = (k : Int)) (hk : k < 60) : ab_M l E base yX4_requestAt cX4_requestAt 2 (some .int) 1 0 0 [.ref (ad 4), ii_v i] ab_x4 ad (f, w) (ab_R (ii_v (f 6 k)) ab_x4 ad (f, w)) := by
  obtain ⟨Post, hPost⟩ : ∃ P : ab_P, P = (ab_R (ii_v (f 6 k)) ab_x4 ad (f, w)) := ⟨_, rfl⟩
  rw [← hPost]
  refine ab_of RX4 [(0, .ref (ad 4)), (1, ii_v i)] hl (by decide) rfl (Nat.le_of_ble_eq_true rfl) rfl ?_
  intro p e s m args below meth c C T0 hnm
  refine a_iload_n C dX4_requestAt_0 rfl ?_
  refine a_if_lt (tgt := 22) C dX4_requestAt_1 rfl (by unfold ii_B; omega) (fun h1 => ?_) (fun h1 => ?_)
  · skip
    omega
  · skip
    refine a_iload_n C dX4_requestAt_4 rfl ?_
    refine a_aload_n C dX4_requestAt_5 rfl ?_
    refine a_get (ci := 5) (i := 1) (v := .ref (ad 6)) C iw_X4 rfl (by decide) rfl fl_X4_15 rfl rfl dX4_requestAt_6 ?_
    refine a_alen (o := 6) (N := 60) C dX4_requestAt_9 rfl (Or.inl rfl) ?_
    refine a_icmp_ge (tgt := 22) C dX4_requestAt_10 rfl (by unfold ii_B; omega) (by unfold ii_B; omega) (fun h10 => ?_) (fun h10 => ?_)
    · skip
      omega
    · skip
      refine a_aload_n C dX4_requestAt_13 rfl ?_
      refine a_get (ci := 5) (i := 1) (v := .ref (ad 6)) C iw_X4 rfl (by decide) rfl fl_X4_15 rfl rfl dX4_requestAt_14 ?_
      refine a_iload_n C dX4_requestAt_17 rfl ?_
      refine a_iald (o := 6) (N := 60) k C dX4_requestAt_18 rfl (by omega) (by omega) (by decide) ?_
      refine a_goto (tgt := 23) C dX4_requestAt_19 rfl ?_
      refine a_iret C ?_ (by decide) (by decide) dX4_requestAt_23
      rw [hPost]
      exact ⟨rfl, rfl, rfl, rfl⟩
set_option maxRecDepth 20000 in
set_option maxHeartbeats 2000000 in
theorem c_jtimeAt {l : Launch} {E : ab_E} {base : Nat} (hl : l.stackTraces = false) {ad : Nat → Nat} (f : Nat → Nat → Int) (w : Nat × Nat × Int64 × UInt64) (i : Int) (k : Nat) (hi : i = (k : Int)) (hk : k < 60) : ab_M l E base yX4_timeAt cX4_timeAt 2 (some .int) 1 0 0 [.ref (ad 4), ii_v i] ab_x4 ad (f, w) (ab_R (ii_v (f 7 k)) ab_x4 ad (f, w)) := by
  obtain ⟨Post, hPost⟩ : ∃ P : ab_P, P = (ab_R (ii_v (f 7 k)) ab_x4 ad (f, w)) := ⟨_, rfl⟩
  rw [← hPost]
  refine ab_of RX4 [(0, .ref (ad 4)), (1, ii_v i)] hl (by decide) rfl (Nat.le_of_ble_eq_true rfl) rfl ?_
  intro p e s m args below meth c C T0 hnm
  refine a_iload_n C dX4_timeAt_0 rfl ?_
  refine a_if_lt (tgt := 22) C dX4_timeAt_1 rfl (by unfold ii_B; omega) (fun h1 => ?_) (fun h1 => ?_)
  · skip
    omega
  · skip
    refine a_iload_n C dX4_timeAt_4 rfl ?_
    refine a_aload_n C dX4_timeAt_5 rfl ?_
    refine a_get (ci := 5) (i := 2) (v := .ref (ad 7)) C iw_X4 rfl (by decide) rfl fl_X4_18 rfl rfl dX4_timeAt_6 ?_
    refine a_alen (o := 7) (N := 60) C dX4_timeAt_9 rfl (Or.inl rfl) ?_
    refine a_icmp_ge (tgt := 22) C dX4_timeAt_10 rfl (by unfold ii_B; omega) (by unfold ii_B; omega) (fun h10 => ?_) (fun h10 => ?_)
    · skip
      omega
    · skip
      refine a_aload_n C dX4_timeAt_13 rfl ?_
      refine a_get (ci := 5) (i := 2) (v := .ref (ad 7)) C iw_X4 rfl (by decide) rfl fl_X4_18 rfl rfl dX4_timeAt_14 ?_
      refine a_iload_n C dX4_timeAt_17 rfl ?_
      refine a_iald (o := 7) (N := 60) k C dX4_timeAt_18 rfl (by omega) (by omega) (by decide) ?_
      refine a_goto (tgt := 23) C dX4_timeAt_19 rfl ?_
      refine a_iret C ?_ (by decide) (by decide) dX4_timeAt_23
      rw [hPost]
      exact ⟨rfl, rfl, rfl, rfl⟩
set_option maxRecDepth 20000 in
set_option maxHeartbeats 2000000 in
theorem c_jdistanceAt {l : Launch} {E : ab_E} {base : Nat} (hl : l.stackTraces = false) {ad : Nat → Nat} (f : Nat → Nat → Int) (w : Nat × Nat × Int64 × UInt64) (i : Int) (k : Nat) (hi : i = (k : Int)) (hk : k < 60) : ab_M l E base yX4_distanceAt cX4_distanceAt 2 (some .int) 1 0 0 [.ref (ad 4), ii_v i] ab_x4 ad (f, w) (ab_R (ii_v (f 8 k)) ab_x4 ad (f, w)) := by
  obtain ⟨Post, hPost⟩ : ∃ P : ab_P, P = (ab_R (ii_v (f 8 k)) ab_x4 ad (f, w)) := ⟨_, rfl⟩
  rw [← hPost]
  refine ab_of RX4 [(0, .ref (ad 4)), (1, ii_v i)] hl (by decide) rfl (Nat.le_of_ble_eq_true rfl) rfl ?_
  intro p e s m args below meth c C T0 hnm
  refine a_iload_n C dX4_distanceAt_0 rfl ?_
  refine a_if_lt (tgt := 22) C dX4_distanceAt_1 rfl (by unfold ii_B; omega) (fun h1 => ?_) (fun h1 => ?_)
  · skip
    omega
  · skip
    refine a_iload_n C dX4_distanceAt_4 rfl ?_
    refine a_aload_n C dX4_distanceAt_5 rfl ?_
    refine a_get (ci := 5) (i := 3) (v := .ref (ad 8)) C iw_X4 rfl (by decide) rfl fl_X4_21 rfl rfl dX4_distanceAt_6 ?_
    refine a_alen (o := 8) (N := 60) C dX4_distanceAt_9 rfl (Or.inl rfl) ?_
    refine a_icmp_ge (tgt := 22) C dX4_distanceAt_10 rfl (by unfold ii_B; omega) (by unfold ii_B; omega) (fun h10 => ?_) (fun h10 => ?_)
    · skip
      omega
    · skip
      refine a_aload_n C dX4_distanceAt_13 rfl ?_
      refine a_get (ci := 5) (i := 3) (v := .ref (ad 8)) C iw_X4 rfl (by decide) rfl fl_X4_21 rfl rfl dX4_distanceAt_14 ?_
      refine a_iload_n C dX4_distanceAt_17 rfl ?_
      refine a_iald (o := 8) (N := 60) k C dX4_distanceAt_18 rfl (by omega) (by omega) (by decide) ?_
      refine a_goto (tgt := 23) C dX4_distanceAt_19 rfl ?_
      refine a_iret C ?_ (by decide) (by decide) dX4_distanceAt_23
      rw [hPost]
      exact ⟨rfl, rfl, rfl, rfl⟩
set_option maxRecDepth 20000 in
set_option maxHeartbeats 2000000 in
theorem c_jfirst {l : Launch} {E : ab_E} {base : Nat} (hl : l.stackTraces = false) {ad : Nat → Nat} (f : Nat → Nat → Int) (w : Nat × Nat × Int64 × UInt64) (x : Nat) (hx : x < 60) (hj : ∀ k, k ≤ x → 0 ≤ f 6 k ∧ f 6 k ≤ 100) : ab_M l E base yX4_isFirstOfRequest cX4_isFirstOfRequest 3 (some .boolean) 2 0 0 [.ref (ad 4), ii_v ((x : Nat) : Int)] ab_x4 ad (f, w) (ab_R (ii_v (if jf_b (f 6) (f 6 x) x = true then 1 else 0)) ab_x4 ad (f, w)) := by
  obtain ⟨Post, hPost⟩ : ∃ P : ab_P, P = (ab_R (ii_v (if jf_b (f 6) (f 6 x) x = true then 1 else 0)) ab_x4 ad (f, w)) := ⟨_, rfl⟩
  rw [← hPost]
  refine ab_of RX4 [(0, .ref (ad 4)), (1, ii_v ((x : Nat) : Int))] hl (by decide) rfl (Nat.le_of_ble_eq_true rfl) rfl ?_
  intro p e s m args below meth c C T0 hnm
  refine a_iconst C dX4_isFirstOfRequest_0 ?_
  refine a_istore_n (L' := [(0, .ref (ad 4)), (1, ii_v ((x : Nat) : Int)), (2, ii_v 0)]) C dX4_isFirstOfRequest_1 (by decide) rfl ?_
  have loop2 : ∀ (NN2 : Nat) (k : Nat), x - k < NN2 → (k ≤ x) → (jf_b (f 6) (f 6 x) k = true) → ab_W p l e (ab_rm 2 0 0) s m args below meth c E base 3 (ab_Q below E base Post args s 0 0) ab_x4 ad (f, w) 0 0 2 [(0, .ref (ad 4)), (1, ii_v ((x : Nat) : Int)), (2, ii_v ((k : Nat) : Int))] [] := by
    intro NN2
    induction NN2 with
    | zero => intro k hNN; exact absurd hNN (Nat.not_lt_zero _)
    | succ NN2 ih2 =>
      intro k hNN hk hE
      refine a_iload_n C dX4_isFirstOfRequest_2 rfl ?_
      refine a_iload_n C dX4_isFirstOfRequest_3 rfl ?_
      refine a_icmp_ge (tgt := 28) C dX4_isFirstOfRequest_4 rfl (by unfold ii_B; omega) (by unfold ii_B; omega) (fun h4 => ?_) (fun h4 => ?_)
      · skip
        refine a_iconst C dX4_isFirstOfRequest_28 ?_
        refine a_zret C (by decide) ?_ (by decide) (by decide) dX4_isFirstOfRequest_29
        rw [hPost]
        exact ⟨rt_1 (by rw [show x = k by omega]; rw [show x = k by omega] at hE; exact hE), rfl, rfl, rfl⟩
      · skip
        refine a_aload_n C dX4_isFirstOfRequest_7 rfl ?_
        refine a_iload_n C dX4_isFirstOfRequest_8 rfl ?_
        refine a_callV (o := 4) (As := [ii_v ((k : Nat) : Int)]) C (c_jrequestAt hl f w ((k : Nat) : Int) k (by omega) (by omega)) co_X4_requestAt in_X4 ml_X4_35 im_X4_requestAt se_X4_requestAt rfl rfl ar_X4_requestAt ⟨by decide, by decide, by decide, by decide⟩ rfl (Nat.le_of_ble_eq_true rfl) dX4_isFirstOfRequest_9 (a_dR ?_) a_nR
        refine a_aload_n C dX4_isFirstOfRequest_12 rfl ?_
        refine a_iload_n C dX4_isFirstOfRequest_13 rfl ?_
        refine a_callV (o := 4) (As := [ii_v ((x : Nat) : Int)]) C (c_jrequestAt hl f w ((x : Nat) : Int) x (by omega) (by omega)) co_X4_requestAt in_X4 ml_X4_35 im_X4_requestAt se_X4_requestAt rfl rfl ar_X4_requestAt ⟨by decide, by decide, by decide, by decide⟩ rfl (Nat.le_of_ble_eq_true rfl) dX4_isFirstOfRequest_14 (a_dR ?_) a_nR
        have q1 := hj k (by omega)
        have q2 := hj x (by omega)
        refine a_icmp_ne (tgt := 22) C dX4_isFirstOfRequest_17 rfl (by unfold ii_B; omega) (by unfold ii_B; omega) (fun h17 => ?_) (fun h17 => ?_)
        · skip
          refine a_iinc (L' := [(0, .ref (ad 4)), (1, ii_v ((x : Nat) : Int)), (2, ii_v (((k : Nat) : Int) + 1))]) C dX4_isFirstOfRequest_22 rfl (by decide) rfl ?_
          refine a_goto (tgt := 2) C dX4_isFirstOfRequest_25 rfl ?_
          exact ih2 (k + 1) (by omega) (by omega) (by rw [jf_b, hE, decide_eq_true h17]; rfl)
        · skip
          refine a_iconst C dX4_isFirstOfRequest_20 ?_
          refine a_zret C (by decide) ?_ (by decide) (by decide) dX4_isFirstOfRequest_21
          rw [hPost]
          exact ⟨rt_0 (by rw [jf_no (k := k) (by omega) (by omega)]; decide), rfl, rfl, rfl⟩
  exact loop2 (_ + 1) 0 (Nat.lt_succ_self _) (Nat.zero_le _) rfl
set_option maxRecDepth 20000 in
set_option maxHeartbeats 2000000 in
theorem c_jempty {l : Launch} {E : ab_E} {base : Nat} (hl : l.stackTraces = false) {ad : Nat → Nat} (f : Nat → Nat → Int) (w : Nat × Nat × Int64 × UInt64) (hr : w.2.1 ≤ 30) {v : Nat → Nat → Int} (hv : pe_C f v w.2.1) (n : Nat) (hn : f 4 4 = (n : Int)) (h60 : n ≤ 60) (hj5 : ∀ k, k < n → 0 ≤ f 5 k ∧ f 5 k ≤ 100) (hj : ∀ k, k < n → 0 ≤ f 6 k ∧ f 6 k ≤ w.2.1) (b u : Int) (hb : 0 ≤ b ∧ b ≤ 100) : ab_M l E base yX4_emptyDistance cX4_emptyDistance 9 (some .int) 6 0 0 [.ref (ad 4), ii_v b, ii_v u, .ref (ad 2)] ab_x4 ad (f, w) (ab_R (ii_v ((jd_f f v b n).1 + (if (jd_f f v b n).2.2 = 0 then u - (jd_f f v b n).2.1 else 0))) ab_x4 ad (f, w)) := by
  obtain ⟨Post, hPost⟩ : ∃ P : ab_P, P = (ab_R (ii_v ((jd_f f v b n).1 + (if (jd_f f v b n).2.2 = 0 then u - (jd_f f v b n).2.1 else 0))) ab_x4 ad (f, w)) := ⟨_, rfl⟩
  rw [← hPost]
  refine ab_of RX4 [(0, .ref (ad 4)), (1, ii_v b), (2, ii_v u), (3, .ref (ad 2))] hl (by decide) rfl (Nat.le_of_ble_eq_true rfl) rfl ?_
  intro p e s m args below meth c C T0 hnm
  refine a_iconst C dX4_emptyDistance_0 ?_
  refine a_istore (L' := [(0, .ref (ad 4)), (1, ii_v b), (2, ii_v u), (3, .ref (ad 2)), (4, ii_v 0)]) C dX4_emptyDistance_1 (by decide) rfl ?_
  refine a_iconst C dX4_emptyDistance_3 ?_
  refine a_istore (L' := [(0, .ref (ad 4)), (1, ii_v b), (2, ii_v u), (3, .ref (ad 2)), (4, ii_v 0), (5, ii_v 0)]) C dX4_emptyDistance_4 (by decide) rfl ?_
  refine a_iconst C dX4_emptyDistance_6 ?_
  refine a_istore (L' := [(0, .ref (ad 4)), (1, ii_v b), (2, ii_v u), (3, .ref (ad 2)), (4, ii_v 0), (5, ii_v 0), (6, ii_v 0)]) C dX4_emptyDistance_7 (by decide) rfl ?_
  refine a_iconst C dX4_emptyDistance_9 ?_
  refine a_istore (L' := [(0, .ref (ad 4)), (1, ii_v b), (2, ii_v u), (3, .ref (ad 2)), (4, ii_v 0), (5, ii_v 0), (6, ii_v 0), (7, ii_v 0)]) C dX4_emptyDistance_10 (by decide) rfl ?_
  have loop12 : ∀ (NN12 : Nat) (k : Nat) (a : Int) (t : Int) (ri : Int), n - k < NN12 → (k ≤ n) → (jd_f f v b k = (a, t, ri)) → (0 - 6 * (k : Int) ≤ ri ∧ ri ≤ 6 * (k : Int)) → ab_W p l e (ab_rm 6 0 0) s m args below meth c E base 9 (ab_Q below E base Post args s 0 0) ab_x4 ad (f, w) 0 0 12 [(0, .ref (ad 4)), (1, ii_v b), (2, ii_v u), (3, .ref (ad 2)), (4, ii_v a), (5, ii_v t), (6, ii_v ri), (7, ii_v ((k : Nat) : Int))] [] := by
    intro NN12
    induction NN12 with
    | zero => intro k a t ri hNN; exact absurd hNN (Nat.not_lt_zero _)
    | succ NN12 ih12 =>
      intro k a t ri hNN hk hE hm
      refine a_iload C dX4_emptyDistance_12 rfl ?_
      refine a_aload_n C dX4_emptyDistance_14 rfl ?_
      refine a_get (ci := 5) (i := 4) (v := ii_v (f 4 4)) C iw_X4 rfl (by decide) rfl fl_X4_24 rfl rfl dX4_emptyDistance_15 ?_
      refine a_top (w := ii_v ((n : Nat) : Int)) (congrArg (fun q => ii_v q) hn) ?_
      refine a_icmp_ge (tgt := 105) C dX4_emptyDistance_18 rfl (by unfold ii_B; omega) (by unfold ii_B; omega) (fun h18 => ?_) (fun h18 => ?_)
      · skip
        refine a_iload C dX4_emptyDistance_105 rfl ?_
        refine a_iload C dX4_emptyDistance_107 rfl ?_
        refine a_if_ne (tgt := 119) C dX4_emptyDistance_109 rfl (by unfold ii_B; omega) (fun h109 => ?_) (fun h109 => ?_)
        · skip
          refine a_iconst C dX4_emptyDistance_119 ?_
          refine a_iadd C dX4_emptyDistance_120 ?_
          refine a_iret C ?_ (by decide) (by decide) dX4_emptyDistance_121
          rw [hPost]
          refine ⟨rt_i ?_, rfl, rfl, rfl⟩
          rw [show n = k by omega, hE]
          dsimp only
          first | rw [if_pos (by omega)] | rw [if_neg (by omega)]
        · skip
          refine a_iload_n C dX4_emptyDistance_112 rfl ?_
          refine a_iload C dX4_emptyDistance_113 rfl ?_
          refine a_isub C dX4_emptyDistance_115 ?_
          refine a_goto (tgt := 120) C dX4_emptyDistance_116 rfl ?_
          refine a_iadd C dX4_emptyDistance_120 ?_
          refine a_iret C ?_ (by decide) (by decide) dX4_emptyDistance_121
          rw [hPost]
          refine ⟨rt_i ?_, rfl, rfl, rfl⟩
          rw [show n = k by omega, hE]
          dsimp only
          first | rw [if_pos (by omega)] | rw [if_neg (by omega)]
      · skip
        refine a_aload_n C dX4_emptyDistance_21 rfl ?_
        refine a_iload C dX4_emptyDistance_22 rfl ?_
        refine a_callV (o := 4) (As := [ii_v ((k : Nat) : Int)]) C (c_jbusAt hl f w ((k : Nat) : Int) k (by omega) (by omega)) co_X4_busAt in_X4 ml_X4_28 im_X4_busAt se_X4_busAt rfl rfl ar_X4_busAt ⟨by decide, by decide, by decide, by decide⟩ rfl (Nat.le_of_ble_eq_true rfl) dX4_emptyDistance_24 (a_dR ?_) a_nR
        have q5 := hj5 k (by omega)
        refine a_iload_n C dX4_emptyDistance_27 rfl ?_
        refine a_icmp_ne (tgt := 99) C dX4_emptyDistance_28 rfl (by unfold ii_B; omega) (by unfold ii_B; omega) (fun h28 => ?_) (fun h28 => ?_)
        · skip
          refine a_iinc (L' := [(0, .ref (ad 4)), (1, ii_v b), (2, ii_v u), (3, .ref (ad 2)), (4, ii_v a), (5, ii_v t), (6, ii_v ri), (7, ii_v (((k : Nat) : Int) + 1))]) C dX4_emptyDistance_99 rfl (by decide) rfl ?_
          refine a_goto (tgt := 12) C dX4_emptyDistance_102 rfl ?_
          exact ih12 (k + 1) a t ri (by omega) (by omega) (by rw [jd_f, hE]; first | (rw [if_neg (by assumption)]; done) | (rw [if_pos (by omega), show (f 6 k).toNat = r by omega]; first | exact jd_1 (by omega) (by assumption) | exact jd_2 (by omega) (by assumption) | exact jd_3 (by omega) (by assumption) | exact jd_4 (by omega) (by assumption))) (by omega)
        · skip
          refine a_iload C dX4_emptyDistance_31 rfl ?_
          refine a_iload C dX4_emptyDistance_33 rfl ?_
          refine a_if_ne (tgt := 50) C dX4_emptyDistance_35 rfl (by unfold ii_B; omega) (fun h35 => ?_) (fun h35 => ?_)
          · skip
            refine a_iconst C dX4_emptyDistance_50 ?_
            refine a_iadd C dX4_emptyDistance_51 ?_
            refine a_istore (L' := [(0, .ref (ad 4)), (1, ii_v b), (2, ii_v u), (3, .ref (ad 2)), (4, ii_v (a + 0)), (5, ii_v t), (6, ii_v ri), (7, ii_v ((k : Nat) : Int))]) C dX4_emptyDistance_52 (by decide) rfl ?_
            refine a_aload_n C dX4_emptyDistance_54 rfl ?_
            refine a_iload C dX4_emptyDistance_55 rfl ?_
            refine a_callV (o := 4) (As := [ii_v ((k : Nat) : Int)]) C (c_jdistanceAt hl f w ((k : Nat) : Int) k (by omega) (by omega)) co_X4_distanceAt in_X4 ml_X4_32 im_X4_distanceAt se_X4_distanceAt rfl rfl ar_X4_distanceAt ⟨by decide, by decide, by decide, by decide⟩ rfl (Nat.le_of_ble_eq_true rfl) dX4_emptyDistance_57 (a_dR ?_) a_nR
            refine a_istore (L' := [(0, .ref (ad 4)), (1, ii_v b), (2, ii_v u), (3, .ref (ad 2)), (4, ii_v (a + 0)), (5, ii_v (f 8 k)), (6, ii_v ri), (7, ii_v ((k : Nat) : Int))]) C dX4_emptyDistance_60 (by decide) rfl ?_
            refine a_aload_n C dX4_emptyDistance_62 rfl ?_
            refine a_aload_n C dX4_emptyDistance_63 rfl ?_
            refine a_iload C dX4_emptyDistance_64 rfl ?_
            refine a_callV (o := 4) (As := [ii_v ((k : Nat) : Int)]) C (c_jrequestAt hl f w ((k : Nat) : Int) k (by omega) (by omega)) co_X4_requestAt in_X4 ml_X4_35 im_X4_requestAt se_X4_requestAt rfl rfl ar_X4_requestAt ⟨by decide, by decide, by decide, by decide⟩ rfl (Nat.le_of_ble_eq_true rfl) dX4_emptyDistance_66 (a_dR ?_) a_nR
            have q6 := hj k (by omega)
            obtain ⟨r, hr6⟩ := Int.eq_ofNat_of_zero_le q6.1
            rw [hr6]
            have hrn : r ≤ w.2.1 := by omega
            have q2 := (hv.2 r (by omega)).2.2.2.2.1
            refine a_callVN (o := 2) (As := [ii_v ((r : Nat) : Int)]) C (c_requestAt hl f w hr ((r : Nat) : Int) r (by omega) hrn) co_X0_requestAt in_X0 mn_X4_38 im_X0_requestAt se_X0_requestAt rfl rfl ar_X0_requestAt ⟨by decide, by decide, by decide, by decide⟩ rfl (Nat.le_of_ble_eq_true rfl) dX4_emptyDistance_69 (a_dR ?_) a_nR
            refine a_getN (ci := 7) (i := 4) (v := ii_v (f (300 + r) 4)) C iw_X6 rfl (by decide) rfl fn_X4_43 (ob_req hrn) rfl dX4_emptyDistance_72 ?_
            refine a_top (w := ii_v (v 2 r)) (congrArg (fun q => ii_v q) (hv.2 r (by omega)).1) ?_
            refine a_istore (L' := [(0, .ref (ad 4)), (1, ii_v b), (2, ii_v u), (3, .ref (ad 2)), (4, ii_v (a + 0)), (5, ii_v (f 8 k)), (6, ii_v ri), (7, ii_v ((k : Nat) : Int)), (8, ii_v (v 2 r))]) C dX4_emptyDistance_75 (by decide) rfl ?_
            refine a_iload C dX4_emptyDistance_77 rfl ?_
            refine a_aload_n C dX4_emptyDistance_79 rfl ?_
            refine a_iload C dX4_emptyDistance_80 rfl ?_
            refine a_callV (o := 4) (As := [ii_v ((k : Nat) : Int)]) C (c_jfirst hl f w k (by omega) (fun j h => by have := hj j (by omega); omega)) co_X4_isFirstOfRequest in_X4 ml_X4_48 im_X4_isFirstOfRequest se_X4_isFirstOfRequest rfl rfl ar_X4_isFirstOfRequest ⟨by decide, by decide, by decide, by decide⟩ rfl (Nat.le_of_ble_eq_true rfl) dX4_emptyDistance_82 (a_dR ?_) a_nR
            refine a_bif_eq (tgt := 93) C dX4_emptyDistance_85 rfl (fun h85 => ?_) (fun h85 => ?_)
            · skip
              refine a_iload C dX4_emptyDistance_93 rfl ?_
              refine a_ineg C dX4_emptyDistance_95 ?_
              refine a_iadd C dX4_emptyDistance_96 ?_
              refine a_istore (L' := [(0, .ref (ad 4)), (1, ii_v b), (2, ii_v u), (3, .ref (ad 2)), (4, ii_v (a + 0)), (5, ii_v (f 8 k)), (6, ii_v (ri + (-(v 2 r)))), (7, ii_v ((k : Nat) : Int)), (8, ii_v (v 2 r))]) C dX4_emptyDistance_97 (by decide) rfl ?_
              refine a_iinc (L' := [(0, .ref (ad 4)), (1, ii_v b), (2, ii_v u), (3, .ref (ad 2)), (4, ii_v (a + 0)), (5, ii_v (f 8 k)), (6, ii_v (ri + (-(v 2 r)))), (7, ii_v (((k : Nat) : Int) + 1)), (8, ii_v (v 2 r))]) C dX4_emptyDistance_99 rfl (by decide) rfl ?_
              refine a_goto (tgt := 12) C dX4_emptyDistance_102 rfl ?_
              refine a_pick [0, 1, 2, 3, 4, 5, 6, 7] (L2 := [(0, .ref (ad 4)), (1, ii_v b), (2, ii_v u), (3, .ref (ad 2)), (4, ii_v (a + 0)), (5, ii_v (f 8 k)), (6, ii_v (ri + (-(v 2 r)))), (7, ii_v (((k : Nat) : Int) + 1))]) rfl ?_
              exact ih12 (k + 1) (a + 0) (f 8 k) (ri + (-(v 2 r))) (by omega) (by omega) (by rw [jd_f, hE]; first | (rw [if_neg (by assumption)]; done) | (rw [if_pos (by omega), show (f 6 k).toNat = r by omega]; first | exact jd_1 (by omega) (by assumption) | exact jd_2 (by omega) (by assumption) | exact jd_3 (by omega) (by assumption) | exact jd_4 (by omega) (by assumption))) (by omega)
            · skip
              refine a_iload C dX4_emptyDistance_88 rfl ?_
              refine a_goto (tgt := 96) C dX4_emptyDistance_90 rfl ?_
              refine a_iadd C dX4_emptyDistance_96 ?_
              refine a_istore (L' := [(0, .ref (ad 4)), (1, ii_v b), (2, ii_v u), (3, .ref (ad 2)), (4, ii_v (a + 0)), (5, ii_v (f 8 k)), (6, ii_v (ri + (v 2 r))), (7, ii_v ((k : Nat) : Int)), (8, ii_v (v 2 r))]) C dX4_emptyDistance_97 (by decide) rfl ?_
              refine a_iinc (L' := [(0, .ref (ad 4)), (1, ii_v b), (2, ii_v u), (3, .ref (ad 2)), (4, ii_v (a + 0)), (5, ii_v (f 8 k)), (6, ii_v (ri + (v 2 r))), (7, ii_v (((k : Nat) : Int) + 1)), (8, ii_v (v 2 r))]) C dX4_emptyDistance_99 rfl (by decide) rfl ?_
              refine a_goto (tgt := 12) C dX4_emptyDistance_102 rfl ?_
              refine a_pick [0, 1, 2, 3, 4, 5, 6, 7] (L2 := [(0, .ref (ad 4)), (1, ii_v b), (2, ii_v u), (3, .ref (ad 2)), (4, ii_v (a + 0)), (5, ii_v (f 8 k)), (6, ii_v (ri + (v 2 r))), (7, ii_v (((k : Nat) : Int) + 1))]) rfl ?_
              exact ih12 (k + 1) (a + 0) (f 8 k) (ri + (v 2 r)) (by omega) (by omega) (by rw [jd_f, hE]; first | (rw [if_neg (by assumption)]; done) | (rw [if_pos (by omega), show (f 6 k).toNat = r by omega]; first | exact jd_1 (by omega) (by assumption) | exact jd_2 (by omega) (by assumption) | exact jd_3 (by omega) (by assumption) | exact jd_4 (by omega) (by assumption))) (by omega)
          · skip
            refine a_aload_n C dX4_emptyDistance_38 rfl ?_
            refine a_iload C dX4_emptyDistance_39 rfl ?_
            refine a_callV (o := 4) (As := [ii_v ((k : Nat) : Int)]) C (c_jdistanceAt hl f w ((k : Nat) : Int) k (by omega) (by omega)) co_X4_distanceAt in_X4 ml_X4_32 im_X4_distanceAt se_X4_distanceAt rfl rfl ar_X4_distanceAt ⟨by decide, by decide, by decide, by decide⟩ rfl (Nat.le_of_ble_eq_true rfl) dX4_emptyDistance_41 (a_dR ?_) a_nR
            refine a_iload C dX4_emptyDistance_44 rfl ?_
            refine a_isub C dX4_emptyDistance_46 ?_
            refine a_goto (tgt := 51) C dX4_emptyDistance_47 rfl ?_
            refine a_iadd C dX4_emptyDistance_51 ?_
            refine a_istore (L' := [(0, .ref (ad 4)), (1, ii_v b), (2, ii_v u), (3, .ref (ad 2)), (4, ii_v (a + ((f 8 k) - t))), (5, ii_v t), (6, ii_v ri), (7, ii_v ((k : Nat) : Int))]) C dX4_emptyDistance_52 (by decide) rfl ?_
            refine a_aload_n C dX4_emptyDistance_54 rfl ?_
            refine a_iload C dX4_emptyDistance_55 rfl ?_
            refine a_callV (o := 4) (As := [ii_v ((k : Nat) : Int)]) C (c_jdistanceAt hl f w ((k : Nat) : Int) k (by omega) (by omega)) co_X4_distanceAt in_X4 ml_X4_32 im_X4_distanceAt se_X4_distanceAt rfl rfl ar_X4_distanceAt ⟨by decide, by decide, by decide, by decide⟩ rfl (Nat.le_of_ble_eq_true rfl) dX4_emptyDistance_57 (a_dR ?_) a_nR
            refine a_istore (L' := [(0, .ref (ad 4)), (1, ii_v b), (2, ii_v u), (3, .ref (ad 2)), (4, ii_v (a + ((f 8 k) - t))), (5, ii_v (f 8 k)), (6, ii_v ri), (7, ii_v ((k : Nat) : Int))]) C dX4_emptyDistance_60 (by decide) rfl ?_
            refine a_aload_n C dX4_emptyDistance_62 rfl ?_
            refine a_aload_n C dX4_emptyDistance_63 rfl ?_
            refine a_iload C dX4_emptyDistance_64 rfl ?_
            refine a_callV (o := 4) (As := [ii_v ((k : Nat) : Int)]) C (c_jrequestAt hl f w ((k : Nat) : Int) k (by omega) (by omega)) co_X4_requestAt in_X4 ml_X4_35 im_X4_requestAt se_X4_requestAt rfl rfl ar_X4_requestAt ⟨by decide, by decide, by decide, by decide⟩ rfl (Nat.le_of_ble_eq_true rfl) dX4_emptyDistance_66 (a_dR ?_) a_nR
            have q6 := hj k (by omega)
            obtain ⟨r, hr6⟩ := Int.eq_ofNat_of_zero_le q6.1
            rw [hr6]
            have hrn : r ≤ w.2.1 := by omega
            have q2 := (hv.2 r (by omega)).2.2.2.2.1
            refine a_callVN (o := 2) (As := [ii_v ((r : Nat) : Int)]) C (c_requestAt hl f w hr ((r : Nat) : Int) r (by omega) hrn) co_X0_requestAt in_X0 mn_X4_38 im_X0_requestAt se_X0_requestAt rfl rfl ar_X0_requestAt ⟨by decide, by decide, by decide, by decide⟩ rfl (Nat.le_of_ble_eq_true rfl) dX4_emptyDistance_69 (a_dR ?_) a_nR
            refine a_getN (ci := 7) (i := 4) (v := ii_v (f (300 + r) 4)) C iw_X6 rfl (by decide) rfl fn_X4_43 (ob_req hrn) rfl dX4_emptyDistance_72 ?_
            refine a_top (w := ii_v (v 2 r)) (congrArg (fun q => ii_v q) (hv.2 r (by omega)).1) ?_
            refine a_istore (L' := [(0, .ref (ad 4)), (1, ii_v b), (2, ii_v u), (3, .ref (ad 2)), (4, ii_v (a + ((f 8 k) - t))), (5, ii_v (f 8 k)), (6, ii_v ri), (7, ii_v ((k : Nat) : Int)), (8, ii_v (v 2 r))]) C dX4_emptyDistance_75 (by decide) rfl ?_
            refine a_iload C dX4_emptyDistance_77 rfl ?_
            refine a_aload_n C dX4_emptyDistance_79 rfl ?_
            refine a_iload C dX4_emptyDistance_80 rfl ?_
            refine a_callV (o := 4) (As := [ii_v ((k : Nat) : Int)]) C (c_jfirst hl f w k (by omega) (fun j h => by have := hj j (by omega); omega)) co_X4_isFirstOfRequest in_X4 ml_X4_48 im_X4_isFirstOfRequest se_X4_isFirstOfRequest rfl rfl ar_X4_isFirstOfRequest ⟨by decide, by decide, by decide, by decide⟩ rfl (Nat.le_of_ble_eq_true rfl) dX4_emptyDistance_82 (a_dR ?_) a_nR
            refine a_bif_eq (tgt := 93) C dX4_emptyDistance_85 rfl (fun h85 => ?_) (fun h85 => ?_)
            · skip
              refine a_iload C dX4_emptyDistance_93 rfl ?_
              refine a_ineg C dX4_emptyDistance_95 ?_
              refine a_iadd C dX4_emptyDistance_96 ?_
              refine a_istore (L' := [(0, .ref (ad 4)), (1, ii_v b), (2, ii_v u), (3, .ref (ad 2)), (4, ii_v (a + ((f 8 k) - t))), (5, ii_v (f 8 k)), (6, ii_v (ri + (-(v 2 r)))), (7, ii_v ((k : Nat) : Int)), (8, ii_v (v 2 r))]) C dX4_emptyDistance_97 (by decide) rfl ?_
              refine a_iinc (L' := [(0, .ref (ad 4)), (1, ii_v b), (2, ii_v u), (3, .ref (ad 2)), (4, ii_v (a + ((f 8 k) - t))), (5, ii_v (f 8 k)), (6, ii_v (ri + (-(v 2 r)))), (7, ii_v (((k : Nat) : Int) + 1)), (8, ii_v (v 2 r))]) C dX4_emptyDistance_99 rfl (by decide) rfl ?_
              refine a_goto (tgt := 12) C dX4_emptyDistance_102 rfl ?_
              refine a_pick [0, 1, 2, 3, 4, 5, 6, 7] (L2 := [(0, .ref (ad 4)), (1, ii_v b), (2, ii_v u), (3, .ref (ad 2)), (4, ii_v (a + ((f 8 k) - t))), (5, ii_v (f 8 k)), (6, ii_v (ri + (-(v 2 r)))), (7, ii_v (((k : Nat) : Int) + 1))]) rfl ?_
              exact ih12 (k + 1) (a + ((f 8 k) - t)) (f 8 k) (ri + (-(v 2 r))) (by omega) (by omega) (by rw [jd_f, hE]; first | (rw [if_neg (by assumption)]; done) | (rw [if_pos (by omega), show (f 6 k).toNat = r by omega]; first | exact jd_1 (by omega) (by assumption) | exact jd_2 (by omega) (by assumption) | exact jd_3 (by omega) (by assumption) | exact jd_4 (by omega) (by assumption))) (by omega)
            · skip
              refine a_iload C dX4_emptyDistance_88 rfl ?_
              refine a_goto (tgt := 96) C dX4_emptyDistance_90 rfl ?_
              refine a_iadd C dX4_emptyDistance_96 ?_
              refine a_istore (L' := [(0, .ref (ad 4)), (1, ii_v b), (2, ii_v u), (3, .ref (ad 2)), (4, ii_v (a + ((f 8 k) - t))), (5, ii_v (f 8 k)), (6, ii_v (ri + (v 2 r))), (7, ii_v ((k : Nat) : Int)), (8, ii_v (v 2 r))]) C dX4_emptyDistance_97 (by decide) rfl ?_
              refine a_iinc (L' := [(0, .ref (ad 4)), (1, ii_v b), (2, ii_v u), (3, .ref (ad 2)), (4, ii_v (a + ((f 8 k) - t))), (5, ii_v (f 8 k)), (6, ii_v (ri + (v 2 r))), (7, ii_v (((k : Nat) : Int) + 1)), (8, ii_v (v 2 r))]) C dX4_emptyDistance_99 rfl (by decide) rfl ?_
              refine a_goto (tgt := 12) C dX4_emptyDistance_102 rfl ?_
              refine a_pick [0, 1, 2, 3, 4, 5, 6, 7] (L2 := [(0, .ref (ad 4)), (1, ii_v b), (2, ii_v u), (3, .ref (ad 2)), (4, ii_v (a + ((f 8 k) - t))), (5, ii_v (f 8 k)), (6, ii_v (ri + (v 2 r))), (7, ii_v (((k : Nat) : Int) + 1))]) rfl ?_
              exact ih12 (k + 1) (a + ((f 8 k) - t)) (f 8 k) (ri + (v 2 r)) (by omega) (by omega) (by rw [jd_f, hE]; first | (rw [if_neg (by assumption)]; done) | (rw [if_pos (by omega), show (f 6 k).toNat = r by omega]; first | exact jd_1 (by omega) (by assumption) | exact jd_2 (by omega) (by assumption) | exact jd_3 (by omega) (by assumption) | exact jd_4 (by omega) (by assumption))) (by omega)
  exact loop12 (_ + 1) 0 0 0 0 (Nat.lt_succ_self _) (Nat.zero_le _) rfl (by omega)
