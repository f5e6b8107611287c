/-! The early walk tells the orders that can be driven and are shorter. -/
section TRI
variable {v : Nat → Nat → Int}
theorem pd_tri (x y u w dx dy : Int) : pd_d x y dx dy ≤ pd_d x y u w + pd_d u w dx dy := by
  unfold pd_d
  omega
theorem pd_0 (x y u w : Int) : 0 ≤ pd_d x y u w := by
  unfold pd_d
  omega
theorem len_tri (dx dy : Int) : ∀ (S : List Nat) (x y : Int), pd_d x y dx dy ≤ pl_len v dx dy S x y
  | [], _, _ => Int.le_refl _
  | q :: S, x, y => by
    have h1 := len_tri dx dy S (v 0 q) (v 1 q)
    have h2 := pd_tri x y (v 0 q) (v 1 q) dx dy
    show _ ≤ pd_d x y (v 0 q) (v 1 q) + pl_len v dx dy S (v 0 q) (v 1 q)
    omega
theorem seat_c {cap n : Int} {q : Nat} {S : List Nat} : pl_seat v cap (q :: S) n = false ↔ n + pl_mv v q ≤ cap ∧ pl_seat v cap S (n + pl_mv v q) = false := by
  show (decide (cap < n + pl_mv v q) || pl_seat v cap S (n + pl_mv v q)) = false ↔ _
  rw [Bool.or_eq_false_iff, decide_eq_false_iff_not]
  constructor
  · intro h; exact ⟨by omega, h.2⟩
  · intro h; exact ⟨by omega, h.2⟩
theorem late_c {q : Nat} {S : List Nat} {t : Int} {T : List Int} : pl_late v (q :: S) (t :: T) = false ↔ (q % 2 = 0 → t ≤ v 3 (q / 2)) ∧ pl_late v S T = false := by
  show ((decide (q % 2 = 0) && decide (v 3 (q / 2) < t)) || pl_late v S T) = false ↔ _
  rw [Bool.or_eq_false_iff]
  by_cases hq : q % 2 = 0
  · rw [decide_eq_true hq, Bool.true_and, decide_eq_false_iff_not]
    constructor
    · intro h; exact ⟨fun _ => by omega, h.2⟩
    · intro h; exact ⟨by have := h.1 hq; omega, h.2⟩
  · rw [decide_eq_false hq, Bool.false_and]
    exact ⟨fun h => ⟨fun z => absurd z hq, h.2⟩, fun h => ⟨rfl, h.2⟩⟩
theorem long_c {S0 : List Nat} {T0 : List Int} {q : Nat} {S : List Nat} {t : Int} {T : List Int} : pl_long v S0 T0 (q :: S) (t :: T) = false ↔ (¬ q % 2 = 0 → t - pl_since v S0 T0 q ≤ v 4 (q / 2)) ∧ pl_long v S0 T0 S T = false := by
  show ((!decide (q % 2 = 0) && decide (v 4 (q / 2) < t - pl_since v S0 T0 q)) || pl_long v S0 T0 S T) = false ↔ _
  rw [Bool.or_eq_false_iff]
  by_cases hq : q % 2 = 0
  · rw [decide_eq_true hq, Bool.not_true, Bool.false_and]
    exact ⟨fun h => ⟨fun z => absurd hq z, h.2⟩, fun h => ⟨rfl, h.2⟩⟩
  · rw [decide_eq_false hq, Bool.not_false, Bool.true_and, decide_eq_false_iff_not]
    constructor
    · intro h; exact ⟨fun _ => by omega, h.2⟩
    · intro h; exact ⟨by have := h.1 hq; omega, h.2⟩
theorem ah_c {S0 : List Nat} {q k : Nat} {S : List Nat} : pl_ah S0 (q :: S) k = false ↔ (¬ q % 2 = 0 → 2 * (q / 2) ∈ S0 → S0.idxOf (2 * (q / 2)) ≤ k) ∧ pl_ah S0 S (k + 1) = false := by
  show ((!decide (q % 2 = 0) && (decide (2 * (q / 2) ∈ S0) && decide (k < S0.idxOf (2 * (q / 2))))) || pl_ah S0 S (k + 1)) = false ↔ _
  rw [Bool.or_eq_false_iff]
  by_cases hq : q % 2 = 0
  · rw [decide_eq_true hq, Bool.not_true, Bool.false_and]
    exact ⟨fun h => ⟨fun z => absurd hq z, h.2⟩, fun h => ⟨rfl, h.2⟩⟩
  · rw [decide_eq_false hq, Bool.not_false, Bool.true_and]
    by_cases hm : 2 * (q / 2) ∈ S0
    · rw [decide_eq_true hm, Bool.true_and, decide_eq_false_iff_not]
      constructor
      · intro h; exact ⟨fun _ _ => by omega, h.2⟩
      · intro h; exact ⟨by have := h.1 hq hm; omega, h.2⟩
    · rw [decide_eq_false hm, Bool.false_and]
      exact ⟨fun h => ⟨fun _ z => absurd z hm, h.2⟩, fun h => ⟨rfl, h.2⟩⟩
theorem ok_c {S0 : List Nat} {cap u n : Int} {k q : Nat} {tm : Nat → Int} : wk_ok v S0 cap k q u n tm = true ↔ (q % 2 = 0 → n + v 2 (q / 2) ≤ cap ∧ u ≤ v 3 (q / 2)) ∧ (¬ q % 2 = 0 → (2 * (q / 2) ∈ S0 → S0.idxOf (2 * (q / 2)) ≤ k) ∧ u - (if 2 * (q / 2) ∈ S0 then tm (S0.idxOf (2 * (q / 2))) else v 5 (q / 2)) ≤ v 4 (q / 2)) := by
  unfold wk_ok
  by_cases hq : q % 2 = 0
  · rw [if_pos hq, Bool.and_eq_true, decide_eq_true_iff, decide_eq_true_iff]
    exact ⟨fun h => ⟨fun _ => h, fun z => absurd hq z⟩, fun h => h.1 hq⟩
  · rw [if_neg hq, Bool.and_eq_true, decide_eq_true_iff, Bool.not_eq_true', Bool.and_eq_false_iff, decide_eq_false_iff_not, decide_eq_false_iff_not]
    constructor
    · intro h
      refine ⟨fun z => absurd z hq, fun _ => ⟨fun hm => ?_, h.2⟩⟩
      rcases h.1 with h1 | h1
      · exact absurd hm h1
      · omega
    · intro h
      refine ⟨?_, (h.2 hq).2⟩
      by_cases hm : 2 * (q / 2) ∈ S0
      · exact Or.inr (by have := (h.2 hq).1 hm; omega)
      · exact Or.inl hm
theorem fault_c {S : List Nat} {x y now onb cap dx dy chg : Int} : pl_fault v S x y now onb cap dx dy chg = 0 ↔ S.length ≤ 6 ∧ pl_seat v cap S onb = false ∧ pl_late v S (pl_tm v S x y now) = false ∧ pl_long v S (pl_tm v S x y now) S (pl_tm v S x y now) = false ∧ pl_len v dx dy S x y ≤ chg := by
  unfold pl_fault
  cases h1 : pl_seat v cap S onb <;> cases h2 : pl_late v S (pl_tm v S x y now) <;> cases h3 : pl_long v S (pl_tm v S x y now) S (pl_tm v S x y now) <;> simp only [Bool.false_eq_true, or_false, or_true, if_true, if_false, true_and, false_and, and_false, iff_false, reduceCtorEq, and_true] <;> (try split) <;> (try split) <;> omega
end TRI
section WK
variable {v : Nat → Nat → Int} {S0 : List Nat} {cap chg bound dx dy now : Int}
theorem wk_val : ∀ (S : List Nat) (k : Nat) (x y a n : Int) (T : List Int), (wk_f v S0 cap chg bound dx dy now S k x y a n T).1 = -1 → (wk_f v S0 cap chg bound dx dy now S k x y a n T).2 = a + pl_len v dx dy S x y
  | [], _, _, _, _, _, _, _ => rfl
  | q :: S, k, x, y, a, n, T, h => by
    rw [wk_f] at h ⊢
    split at h
    · exact absurd h (show ¬ ((k : Int) = -1) by omega)
    · rename_i hc
      rw [if_neg hc, wk_val S _ _ _ _ _ _ h]
      show a + pd_d x y (v 0 q) (v 1 q) + _ = a + (pd_d x y (v 0 q) (v 1 q) + _)
      omega
theorem wk_iff {T0 : List Int} : ∀ (S : List Nat) (k : Nat) (x y a n : Int) (T : List Int) (_ : T.length = k) (_ : T0 = T ++ pl_tm v S x y (now + a)) (_ : ∀ j, j < S.length → S0.getD (k + j) 0 = S.getD j 0) (_ : k + S.length ≤ S0.length) (_ : n ≤ cap) (_ : ∀ q, q ∈ S → 0 ≤ v 2 (q / 2)),
    (wk_f v S0 cap chg bound dx dy now S k x y a n T).1 = -1 ↔ (S = [] ∨ (a + pl_len v dx dy S x y < bound ∧ a + pl_len v dx dy S x y ≤ chg)) ∧ pl_seat v cap S n = false ∧ pl_late v S (pl_tm v S x y (now + a)) = false ∧ pl_long v S0 T0 S (pl_tm v S x y (now + a)) = false ∧ pl_ah S0 S k = false
  | [], _, _, _, _, _, _, _, _, _, _, _, _ => ⟨fun _ => ⟨Or.inl rfl, rfl, rfl, rfl, rfl⟩, fun _ => rfl⟩
  | q :: S, k, x, y, a, n, T, hT, hT0, hS, hk, hn, hv => by
    have hlen := len_tri (v := v) dx dy S (v 0 q) (v 1 q)
    have hq2 := hv q List.mem_cons_self
    have hq0 : S0.getD k 0 = q := by simpa using hS 0 (by simp)
    have hkl : k < S0.length := by simp at hk; omega
    have hidx : ¬ q % 2 = 0 → 2 * (q / 2) ∈ S0 → S0.idxOf (2 * (q / 2)) ≠ k := fun ho hm z => by
      have := (gd_idx (d := 0) hm).2
      rw [z, hq0] at this
      omega
    have etm : pl_tm v (q :: S) x y (now + a) = (now + (a + pd_d x y (v 0 q) (v 1 q))) :: pl_tm v S (v 0 q) (v 1 q) (now + (a + pd_d x y (v 0 q) (v 1 q))) := by
      rw [pl_tm, Int.add_assoc]
    have hsince : ¬ q % 2 = 0 → (2 * (q / 2) ∈ S0 → S0.idxOf (2 * (q / 2)) ≤ k) → pl_since v S0 T0 q = (if 2 * (q / 2) ∈ S0 then (fun j => T.getD j 0) (S0.idxOf (2 * (q / 2))) else v 5 (q / 2)) := fun ho hle => by
      unfold pl_since
      by_cases hm : 2 * (q / 2) ∈ S0
      · rw [if_pos hm, if_pos hm, hT0]
        have h1 := hle hm
        have h2 := hidx ho hm
        exact gd_app_l (by omega)
      · rw [if_neg hm, if_neg hm]
    have elen : pl_len v dx dy (q :: S) x y = pd_d x y (v 0 q) (v 1 q) + pl_len v dx dy S (v 0 q) (v 1 q) := rfl
    rw [etm, late_c, long_c, seat_c, ah_c, elen, wk_f]
    by_cases hc : bound ≤ a + pd_d x y (v 0 q) (v 1 q) + pd_d (v 0 q) (v 1 q) dx dy ∨ chg < a + pd_d x y (v 0 q) (v 1 q) + pd_d (v 0 q) (v 1 q) dx dy ∨ ¬ wk_ok v S0 cap k q (now + (a + pd_d x y (v 0 q) (v 1 q))) n (fun j => T.getD j 0) = true
    · rw [if_pos hc]
      constructor
      · intro h
        exact absurd h (show ¬ ((k : Int) = -1) by omega)
      · rintro ⟨h1, ⟨h2, -⟩, ⟨h3, -⟩, ⟨h4, -⟩, h5, -⟩
        exfalso
        rcases h1 with h1 | h1
        · cases h1
        · rcases hc with hc | hc | hc
          · omega
          · omega
          · refine hc (ok_c.mpr ⟨fun he => ⟨?_, h3 he⟩, fun ho => ⟨h5 ho, ?_⟩⟩)
            · unfold pl_mv at h2
              rw [if_pos he] at h2
              exact h2
            · rw [← hsince ho (h5 ho)]
              exact h4 ho
    · rw [if_neg hc]
      have hc1 : ¬ bound ≤ a + pd_d x y (v 0 q) (v 1 q) + pd_d (v 0 q) (v 1 q) dx dy := fun z => hc (Or.inl z)
      have hc2 : ¬ chg < a + pd_d x y (v 0 q) (v 1 q) + pd_d (v 0 q) (v 1 q) dx dy := fun z => hc (Or.inr (Or.inl z))
      have hc3 : wk_ok v S0 cap k q (now + (a + pd_d x y (v 0 q) (v 1 q))) n (fun j => T.getD j 0) = true := Decidable.byContradiction fun z => hc (Or.inr (Or.inr z))
      obtain ⟨he, ho⟩ := ok_c.mp hc3
      have hn2 : n + pl_mv v q ≤ cap := by
        unfold pl_mv
        by_cases hq : q % 2 = 0
        · rw [if_pos hq]; exact (he hq).1
        · rw [if_neg hq]; omega
      rw [wk_iff (T0 := T0) S (k + 1) (v 0 q) (v 1 q) (a + pd_d x y (v 0 q) (v 1 q)) (n + pl_mv v q) (T ++ [now + (a + pd_d x y (v 0 q) (v 1 q))]) (by rw [List.length_append, hT]; rfl) (by rw [hT0, etm, List.append_assoc]; rfl) (fun j hj => by
        have := hS (j + 1) (by simp; omega)
        rw [show k + 1 + j = k + (j + 1) by omega, this]
        simp) (by simp at hk; omega) hn2 (fun q2 h2 => hv q2 (List.mem_cons_of_mem _ h2))]
      constructor
      · rintro ⟨h1, h2, h3, h4, h5⟩
        refine ⟨Or.inr ?_, ⟨hn2, h2⟩, ⟨fun z => (he z).2, h3⟩, ⟨fun z => ?_, h4⟩, fun z => (ho z).1, h5⟩
        · rcases h1 with h1 | h1
          · subst h1
            show a + (pd_d x y (v 0 q) (v 1 q) + pd_d (v 0 q) (v 1 q) dx dy) < bound ∧ a + (pd_d x y (v 0 q) (v 1 q) + pd_d (v 0 q) (v 1 q) dx dy) ≤ chg
            omega
          · omega
        · rw [hsince z (ho z).1]
          exact (ho z).2
      · rintro ⟨h1, ⟨-, h2⟩, ⟨-, h3⟩, ⟨-, h4⟩, -, h5⟩
        refine ⟨?_, h2, h3, h4, h5⟩
        rcases h1 with h1 | h1
        · cases h1
        · exact Or.inr (by omega)
/-- the whole walk -/
theorem wk_all {x y onb : Int} {O : List Nat} (hO : O ≠ []) (h6 : O.length ≤ 6) (hn : onb ≤ cap) (hv : ∀ q, q ∈ O → 0 ≤ v 2 (q / 2)) : (wk_f v O cap chg bound dx dy now O 0 x y 0 onb []).1 = -1 ↔ pl_len v dx dy O x y < bound ∧ pl_ah O O 0 = false ∧ pl_fault v O x y now onb cap dx dy chg = 0 := by
  rw [wk_iff (S0 := O) (T0 := pl_tm v O x y (now + 0)) O 0 x y 0 onb [] rfl rfl (fun j hj => by rw [Nat.zero_add]) (by omega) hn hv, fault_c, Int.add_zero, Int.zero_add]
  constructor
  · rintro ⟨h1, h2, h3, h4, h5⟩
    rcases h1 with h1 | h1
    · exact absurd h1 hO
    · exact ⟨h1.1, h5, h6, h2, h3, h4, h1.2⟩
  · rintro ⟨h1, h5, -, h2, h3, h4, h6⟩
    exact ⟨Or.inr ⟨h1, h6⟩, h2, h3, h4, h5⟩
theorem idx_le {O G : List Nat} {m z : Nat} (hl : G.length = O.length) (ha : ∀ j, j ≤ m → O.getD j 0 = G.getD j 0) (hz : z ∈ O) (h : O.idxOf z ≤ m) : G.idxOf z ≤ O.idxOf z := by
  have h1 := gd_idx (d := 0) hz
  exact gd_idx_le (by omega) (by rw [← ha _ h]; exact h1.2)
theorem idx_eq {O G : List Nat} {m z : Nat} (hl : G.length = O.length) (ha : ∀ j, j ≤ m → O.getD j 0 = G.getD j 0) (hz : z ∈ O) (hz2 : z ∈ G) (h : O.idxOf z ≤ m) : G.idxOf z = O.idxOf z := by
  have h1 := idx_le hl ha hz h
  have h2 := idx_le (O := G) (G := O) (m := m) (z := z) hl.symm (fun j hj => (ha j hj).symm) hz2 (by omega)
  omega
theorem wk_same {O G : List Nat} {m : Nat} (hl : G.length = O.length) (ha : ∀ j, j ≤ m → O.getD j 0 = G.getD j 0) (hm : ∀ z, z ∈ O ↔ z ∈ G) : ∀ (S S2 : List Nat) (k : Nat) (x y a n : Int) (T : List Int) (_ : S2.length = S.length) (_ : ∀ j, k + j ≤ m → S.getD j 0 = S2.getD j 0) (_ : (wk_f v O cap chg bound dx dy now S k x y a n T).1 = (m : Int)), (wk_f v G cap chg bound dx dy now S2 k x y a n T).1 = (m : Int)
  | [], _, _, _, _, _, _, _, _, _, h => absurd h (show ¬ ((-1 : Int) = (m : Int)) by omega)
  | q :: S, [], _, _, _, _, _, _, hS, _, _ => by simp at hS
  | q :: S, q2 :: S2, k, x, y, a, n, T, hS, hag, h => by
    have hkm : k ≤ m := by
      rcases wk_rng v O cap chg bound dx dy now (q :: S) k x y a n T with h1 | ⟨j, h1, h2, -⟩
      · omega
      · omega
    have hq : q2 = q := by simpa using (hag 0 (by omega)).symm
    subst hq
    have hok : ∀ (u : Int) (tm : Nat → Int), wk_ok v G cap k q2 u n tm = wk_ok v O cap k q2 u n tm := fun u tm => by
      rw [Bool.eq_iff_iff, ok_c, ok_c]
      have hmm := hm (2 * (q2 / 2))
      by_cases hz : 2 * (q2 / 2) ∈ O
      · have hz2 := hmm.mp hz
        by_cases hle : O.idxOf (2 * (q2 / 2)) ≤ m
        · rw [idx_eq hl ha hz hz2 hle]
          simp only [hz, hz2, if_true]
        · have hle2 : ¬ G.idxOf (2 * (q2 / 2)) ≤ m := fun z => hle (by rw [idx_eq (O := G) (G := O) (m := m) hl.symm (fun j hj => (ha j hj).symm) hz2 hz z]; exact z)
          constructor
          · intro h1
            refine ⟨h1.1, fun ho => ?_⟩
            have := (h1.2 ho).1 hz2
            omega
          · intro h1
            refine ⟨h1.1, fun ho => ?_⟩
            have := (h1.2 ho).1 hz
            omega
      · have hz2 : ¬ 2 * (q2 / 2) ∈ G := fun z => hz (hmm.mpr z)
        simp only [hz, hz2, if_false, false_implies]
    rw [wk_f] at h ⊢
    rw [hok]
    by_cases hc : bound ≤ a + pd_d x y (v 0 q2) (v 1 q2) + pd_d (v 0 q2) (v 1 q2) dx dy ∨ chg < a + pd_d x y (v 0 q2) (v 1 q2) + pd_d (v 0 q2) (v 1 q2) dx dy ∨ ¬ wk_ok v O cap k q2 (now + (a + pd_d x y (v 0 q2) (v 1 q2))) n (fun j => T.getD j 0) = true
    · rw [if_pos hc] at h ⊢
      exact h
    · rw [if_neg hc] at h ⊢
      exact wk_same hl ha hm S S2 (k + 1) _ _ _ _ _ (by simpa using hS) (fun j hj => by simpa using hag (j + 1) (by omega)) h
end WK
section OE
variable {v : Nat → Nat → Int} {β : Nat → Int} {now : Int} {S : List Nat}
theorem oe_best (hS : nd_L S) (hS6 : S.length ≤ 6) (hne : S ≠ []) (hn : β 9 ≤ β 1) (hv : ∀ q, q ∈ S → 0 ≤ v 2 (q / 2)) {B0 : List Nat} {b0 : Int} : ∀ (n : Nat) {O B F : List Nat} {b : Int} (_ : oe_R v β now n O B b F) (_ : pm_L S O) (_ : 720 ≤ n + rk O) (_ : cs (ln v β) B0 b0 (fun G => pm_L S G ∧ fe v β now G ∧ lx G O) B b), ∃ b2, cs (ln v β) B0 b0 (fun G => pm_L S G ∧ fe v β now G) F b2
  | 0, O, B, F, b, _, hO, hn, _ => by
    have := rk_720 (G := O) (by rw [hO.1]; exact hS6)
    omega
  | n + 1, O, B, F, b, h, hO, hn1, hc => by
    obtain ⟨O1, B1, b1, hs, h⟩ := h
    have hall : ∀ {G : List Nat}, pm_L S G → ((wk_f v G (β 1) (β 8) b (β 3) (β 4) now G 0 (β 6) (β 7) 0 (β 9) []).1 = -1 ↔ ln v β G < b ∧ fe v β now G) := fun {G} hG => by
      have hGl : G.length = S.length := hG.1
      exact wk_all (by intro z; rw [z] at hGl; exact hne (List.length_eq_zero_iff.mp hGl.symm)) (by omega) hn (fun q hq => hv q ((hG.2.2 q).mp hq))
    have key : pm_L S O1 ∧ rk O ≤ rk O1 ∧ cs (ln v β) B0 b0 (fun G => pm_L S G ∧ fe v β now G ∧ (lx G O1 ∨ G = O1)) B1 b1 := by
      rcases hs with ⟨h1, h2, h3, h4⟩ | ⟨k, h1, h2, h3, h4, h5⟩
      · obtain ⟨h6, h7⟩ := (hall hO).mp h1
        have h8 := wk_val _ _ _ _ _ _ _ h1
        subst h2 h3
        rw [h4, h8, Int.zero_add]
        refine ⟨hO, Nat.le_refl _, cs_take hc h6 (fun G => ⟨fun hG => ?_, fun hG => ?_⟩)⟩
        · rcases hG.2.2 with h9 | h9
          · exact Or.inl ⟨hG.1, hG.2.1, h9⟩
          · exact Or.inr h9
        · rcases hG with h9 | h9
          · exact ⟨h9.1, h9.2.1, Or.inl h9.2.2⟩
          · exact ⟨h9 ▸ hO, h9 ▸ h7, Or.inr h9⟩
      · subst h4 h5
        have hO1 : pm_L S O1 := pm_trans hO h3.1
        have hl1 : O1.length = O.length := h3.1.1
        have hup : O = O1 ∨ lx O O1 := by
          rcases lx_to (G := O) (H := O1) hl1.symm with h6 | h6 | h6
          · exact Or.inr h6
          · exact Or.inl h6
          · obtain ⟨i, hi, ha, hb⟩ := h6
            by_cases hik : i < k + 1
            · have := h3.2.1 i hik
              omega
            · exact (lx_fall (O := O1) (G := O) (pm_sym hO.2.1 h3.1) ha (by omega) (fun k2 hk2 hk3 => by
                have := h3.2.2 i k2 (by omega) hk2 (by omega)
                unfold so_lt at this
                rw [if_neg (by decide)] at this
                exact this) hb).elim
        refine ⟨hO1, ?_, cs_skip hc (fun G hG => ⟨hG.1, hG.2.1, ?_⟩) (fun G hG => ?_)⟩
        · rcases hup with h6 | h6
          · rw [← h6]; exact Nat.le_refl _
          · exact Nat.le_of_lt (rk_up hO.2.1 hO1.2.1 hl1.symm (fun z => (h3.1.2.2 z).symm) h6)
        · rcases hup with h6 | h6
          · rw [← h6]; exact Or.inl hG.2.2
          · exact Or.inl (lx_tr (by rw [hG.1.1, hO.1]) hG.2.2 h6)
        · have hlG : G.length = O.length := hG.1.1.trans hO.1.symm
          by_cases hGO : lx G O
          · exact Or.inl ⟨hG.1, hG.2.1, hGO⟩
          · refine Or.inr ⟨?_, fun H hH => ?_⟩
            · have hagree : ∀ j, j ≤ k → O.getD j 0 = G.getD j 0 := by
                rcases lx_to (G := O) (H := G) hlG.symm with h6 | h6 | h6
                · obtain ⟨i, hi, ha, hb⟩ := h6
                  by_cases hik : k < i
                  · exact fun j hj => ha j (by omega)
                  · have hlx : lx O1 G := ⟨i, by omega, fun j hj => (h3.2.1 j (by omega)).trans (ha j hj), by rw [h3.2.1 i (by omega)]; exact hb⟩
                    rcases hG.2.2 with h7 | h7
                    · exact (lx_as (by omega) hlx h7).elim
                    · exact (lx_ir (h7 ▸ hlx)).elim
                · exact fun j _ => by rw [h6]
                · exact absurd h6 hGO
              have h7 := wk_same (v := v) (O := O) (G := G) (m := k) (cap := β 1) (chg := β 8) (bound := b1) (dx := β 3) (dy := β 4) (now := now) hlG hagree (fun z => (hO.2.2 z).trans (hG.1.2.2 z).symm) O G 0 (β 6) (β 7) 0 (β 9) [] hlG (fun j hj => hagree j (by omega)) h1
              by_cases hlt : ln v β G < b1
              · have := (hall hG.1).mpr ⟨hlt, hG.2.1⟩
                omega
              · omega
            · rcases lx_to (G := O) (H := G) hlG.symm with h6 | h6 | h6
              · exact lx_tr (by rw [hH.1.1, hO.1]) hH.2.2 h6
              · exact h6 ▸ hH.2.2
              · exact absurd h6 hGO
    obtain ⟨hO1, hrk, key⟩ := key
    rcases h with ⟨h1, h2⟩ | ⟨O2, h1, h2⟩
    · refine ⟨b1, ?_⟩
      rw [h2]
      refine cs_skip key (fun G hG => ⟨hG.1, hG.2.1⟩) (fun G hG => Or.inl ⟨hG.1, hG.2, ?_⟩)
      have hp : pm_L O1 G := pm_trans (pm_sym hS hO1) hG.1
      rcases lx_to (G := G) (H := O1) (by rw [hp.1]) with h3 | h3 | h3
      · exact Or.inl h3
      · exact Or.inr h3
      · exact absurd h3 (nx_end h1 hp)
    · have hO2 : pm_L S O2 := pm_trans hO1 h1.1
      have hr := rk_up hO1.2.1 hO2.2.1 h1.1.1.symm (fun z => (h1.1.2.2 z).symm) (nx_lx h1)
      refine oe_best hS hS6 hne hn hv n h2 hO2 (by omega) (cs_skip key (fun G hG => ⟨hG.1, hG.2.1, ?_⟩) (fun G hG => Or.inl ⟨hG.1, hG.2.1, ?_⟩))
      · rcases hG.2.2 with h3 | h3
        · exact lx_tr (by rw [hG.1.1, hO1.1]) h3 (nx_lx h1)
        · rw [h3]; exact nx_lx h1
      · have hp : pm_L O1 G := pm_trans (pm_sym hS hO1) hG.1
        rcases lx_to (G := G) (H := O1) (by rw [hp.1]) with h3 | h3 | h3
        · exact Or.inl h3
        · exact Or.inr h3
        · exact (nx_next h1 hp h3 hG.2.2).elim
theorem pm_nil {G : List Nat} (h : pm_L [] G) : G = [] := List.length_eq_zero_iff.mp h.1
theorem oe_first (hS : nd_L S) (hS6 : S.length ≤ 6) (hn : β 9 ≤ β 1) (hv : ∀ q, q ∈ S → 0 ≤ v 2 (q / 2)) (hf : fe v β now S) {O1 F : List Nat} (hO : so_P true 0 S O1) (hpF : pm_L S F) (h : oe_R v β now 720 O1 S (ln v β S + 1) F) : ∃ b2, mn (ln v β) (fun G => pm_L S G ∧ fe v β now G) F b2 := by
  by_cases hne : S = []
  · subst hne
    have hF := pm_nil hpF
    subst hF
    exact ⟨_, ⟨hpF, hf⟩, rfl, fun G hG => Or.inr ⟨by rw [pm_nil hG.1], Or.inl (pm_nil hG.1).symm⟩⟩
  · obtain ⟨b2, h2⟩ := oe_best (B0 := S) (b0 := ln v β S + 1) hS hS6 hne hn hv 720 h hO.1 (by omega) (cs_0 hS hO)
    exact ⟨b2, cs_mn hf hS h2⟩
end OE
