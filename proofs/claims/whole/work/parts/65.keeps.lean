/-! A tour stays without a fault: as a minute passes, as a stop is made, as a request is taken out. -/
/-- the number at the place of z -/
def at_ (S : List Nat) (T : List Int) (z : Nat) : Int := T.getD (S.idxOf z) 0
theorem at_0 {q : Nat} {S : List Nat} {t : Int} {T : List Int} : at_ (q :: S) (t :: T) q = t := by
  unfold at_
  rw [List.idxOf_cons_self]
  rfl
theorem ix_ne {q z : Nat} {S : List Nat} (h : ¬ q = z) : (q :: S).idxOf z = S.idxOf z + 1 := by
  rw [List.idxOf_cons, beq_eq_false_iff_ne.mpr h]
  rfl
theorem at_s {q z : Nat} {S : List Nat} {t : Int} {T : List Int} (h : ¬ q = z) : at_ (q :: S) (t :: T) z = at_ S T z := by
  unfold at_
  rw [ix_ne h]
  rfl
section LE
variable {v : Nat → Nat → Int}
theorem since_at {S : List Nat} {T : List Int} {q : Nat} : pl_since v S T q = if 2 * (q / 2) ∈ S then at_ S T (2 * (q / 2)) else v 5 (q / 2) := rfl
theorem long_sub {S0 : List Nat} {T0 : List Int} : ∀ (S : List Nat) (T : List Int) (_ : T.length = S.length) (_ : nd_L S), pl_long v S0 T0 S T = false ↔ ∀ p, p ∈ S → ¬ p % 2 = 0 → at_ S T p - pl_since v S0 T0 p ≤ v 4 (p / 2)
  | [], T, _, _ => ⟨fun _ p hp => (nomatch hp), fun _ => by cases T <;> rfl⟩
  | q :: S, [], h, _ => by simp at h
  | q :: S, t :: T, h, hnd => by
    obtain ⟨hnd2, hq⟩ := nd_tail hnd
    rw [long_c, long_sub S T (by simpa using h) hnd2]
    constructor
    · rintro ⟨h1, h2⟩ p hp ho
      by_cases e : q = p
      · subst e
        rw [at_0]
        exact h1 ho
      · rw [at_s e]
        rcases List.mem_cons.mp hp with h3 | h3
        · exact absurd h3.symm e
        · exact h2 p h3 ho
    · intro h1
      refine ⟨fun ho => ?_, fun p hp ho => ?_⟩
      · have := h1 q List.mem_cons_self ho
        rw [at_0] at this
        exact this
      · have := h1 p (List.mem_cons_of_mem _ hp) ho
        rw [at_s (fun e : q = p => hq (e ▸ hp))] at this
        exact this
/-- a stop is made: what the rest of the tour needs -/
theorem fault_made {v2 : Nat → Nat → Int} {q : Nat} {S : List Nat} {x y now onb cap dx dy chg : Int} (hnd : nd_L (q :: S)) (hx : v 0 q = x) (hy : v 1 q = y)
    (h2 : ∀ p, p ∈ S → v2 0 p = v 0 p ∧ v2 1 p = v 1 p ∧ v2 2 (p / 2) = v 2 (p / 2) ∧ v2 3 (p / 2) = v 3 (p / 2) ∧ v2 4 (p / 2) = v 4 (p / 2) ∧ v2 5 (p / 2) = if q % 2 = 0 ∧ p / 2 = q / 2 then now else v 5 (p / 2))
    (h : pl_fault v (q :: S) x y now onb cap dx dy chg = 0) : pl_fault v2 S x y now (onb + pl_mv v q) cap dx dy chg = 0 := by
  obtain ⟨hnd2, hq⟩ := nd_tail hnd
  have hd : pd_d x y (v 0 q) (v 1 q) = 0 := by
    rw [hx, hy]
    unfold pd_d
    omega
  rw [fault_c] at h ⊢
  obtain ⟨h1, hs, hl, hg, hc⟩ := h
  have etm : ∀ (S' : List Nat) (_ : ∀ p, p ∈ S' → p ∈ S) (x y t : Int), pl_tm v2 S' x y t = pl_tm v S' x y t := by
    intro S'
    induction S' with
    | nil => intro _ _ _ _; rfl
    | cons p S' ih =>
      intro hs x y t
      obtain ⟨e0, e1, -⟩ := h2 p (hs p List.mem_cons_self)
      rw [pl_tm, pl_tm, e0, e1, ih (fun z hz => hs z (List.mem_cons_of_mem _ hz))]
  have elen : ∀ (S' : List Nat) (_ : ∀ p, p ∈ S' → p ∈ S) (x y : Int), pl_len v2 dx dy S' x y = pl_len v dx dy S' x y := by
    intro S'
    induction S' with
    | nil => intro _ _ _; rfl
    | cons p S' ih =>
      intro hs x y
      obtain ⟨e0, e1, -⟩ := h2 p (hs p List.mem_cons_self)
      rw [pl_len, pl_len, e0, e1, ih (fun z hz => hs z (List.mem_cons_of_mem _ hz))]
  have eseat : ∀ (S' : List Nat) (_ : ∀ p, p ∈ S' → p ∈ S) (n : Int), pl_seat v2 cap S' n = pl_seat v cap S' n := by
    intro S'
    induction S' with
    | nil => intro _ _; rfl
    | cons p S' ih =>
      intro hs n
      obtain ⟨-, -, e2, -⟩ := h2 p (hs p List.mem_cons_self)
      rw [pl_seat, pl_seat, ih (fun z hz => hs z (List.mem_cons_of_mem _ hz))]
      unfold pl_mv
      rw [e2]
  have elate : ∀ (S' : List Nat) (_ : ∀ p, p ∈ S' → p ∈ S) (T : List Int), pl_late v2 S' T = pl_late v S' T := by
    intro S'
    induction S' with
    | nil => intro _ T; cases T <;> rfl
    | cons p S' ih =>
      intro hs T
      cases T with
      | nil => rfl
      | cons t T =>
        obtain ⟨-, -, -, e3, -⟩ := h2 p (hs p List.mem_cons_self)
        rw [pl_late, pl_late, e3, ih (fun z hz => hs z (List.mem_cons_of_mem _ hz))]
  have e0 : pl_tm v (q :: S) x y now = now :: pl_tm v S x y now := by
    rw [pl_tm, hd, hx, hy, Int.add_zero]
  rw [e0] at hl hg
  rw [etm S (fun _ h => h), eseat S (fun _ h => h), elate S (fun _ h => h), elen S (fun _ h => h)]
  refine ⟨by simp at h1; omega, (seat_c.mp hs).2, (late_c.mp hl).2, ?_, ?_⟩
  · have hTl : (pl_tm v S x y now).length = S.length := pl_tm_len v S x y now
    have hg2 := (long_sub S _ hTl hnd2).mp (long_c.mp hg).2
    rw [long_sub S _ hTl hnd2]
    intro p hp ho
    obtain ⟨-, -, -, -, e4, e5⟩ := h2 p hp
    have h3 := hg2 p hp ho
    rw [e4]
    rw [since_at] at h3 ⊢
    by_cases hz : q = 2 * (p / 2)
    · have hzS : ¬ 2 * (p / 2) ∈ S := fun z => hq (hz ▸ z)
      rw [if_pos (List.mem_cons.mpr (Or.inl hz.symm)), ← hz, at_0] at h3
      rw [if_neg hzS, e5, if_pos ⟨by omega, by omega⟩]
      exact h3
    · by_cases hm : 2 * (p / 2) ∈ S
      · rw [if_pos (List.mem_cons_of_mem _ hm), at_s hz] at h3
        rw [if_pos hm]
        exact h3
      · have hm2 : ¬ 2 * (p / 2) ∈ q :: S := fun z => by
          rcases List.mem_cons.mp z with z | z
          · exact hz z.symm
          · exact hm z
        rw [if_neg hm2] at h3
        rw [if_neg hm, e5, if_neg (fun z => hz (by omega))]
        exact h3
  · rw [pl_len, hd, hx, hy] at hc
    omega
/-- a minute towards the first stop -/
theorem fault_drive {q : Nat} {S : List Nat} {x y x2 y2 now onb cap dx dy chg : Int} (hd : pd_d x2 y2 (v 0 q) (v 1 q) = pd_d x y (v 0 q) (v 1 q) - 1) : pl_fault v (q :: S) x2 y2 (now + 1) onb cap dx dy (chg - 1) = pl_fault v (q :: S) x y now onb cap dx dy chg := by
  have e0 : pl_tm v (q :: S) x2 y2 (now + 1) = pl_tm v (q :: S) x y now := by
    rw [pl_tm, pl_tm, hd, show now + 1 + (pd_d x y (v 0 q) (v 1 q) - 1) = now + pd_d x y (v 0 q) (v 1 q) by omega]
  have e1 : pl_len v dx dy (q :: S) x2 y2 = pl_len v dx dy (q :: S) x y - 1 := by
    rw [pl_len, pl_len, hd]
    omega
  unfold pl_fault
  rw [e0, e1]
  have e2 : (chg - 1 < pl_len v dx dy (q :: S) x y - 1) ↔ chg < pl_len v dx dy (q :: S) x y := by omega
  simp only [e2]
theorem fault_nil {x y now onb cap dx dy chg : Int} : pl_fault v [] x y now onb cap dx dy chg = 0 ↔ pd_d x y dx dy ≤ chg := by
  rw [fault_c]
  exact ⟨fun h => h.2.2.2.2, fun h => ⟨by simp, rfl, rfl, rfl, h⟩⟩
/-- the tour without the stops of r -/
abbrev wo (r : Nat) (S : List Nat) : List Nat := S.filter (fun q => decide (q / 2 ≠ r))
theorem wo_y {r q : Nat} {S : List Nat} (h : ¬ q / 2 = r) : wo r (q :: S) = q :: wo r S := List.filter_cons_of_pos (by simpa using h)
theorem wo_n {r q : Nat} {S : List Nat} (h : q / 2 = r) : wo r (q :: S) = wo r S := List.filter_cons_of_neg (by simpa using h)
theorem wo_mem {r z : Nat} {S : List Nat} : z ∈ wo r S ↔ z ∈ S ∧ ¬ z / 2 = r := by
  rw [List.mem_filter]
  simp
theorem wo_nd {r : Nat} : ∀ {S : List Nat} (_ : nd_L S), nd_L (wo r S)
  | [], h => h
  | q :: S, h => by
    obtain ⟨h1, h2⟩ := nd_tail h
    by_cases e : q / 2 = r
    · rw [wo_n e]; exact wo_nd h1
    · rw [wo_y e]; exact nd_cons (wo_nd h1) (fun z => h2 (wo_mem.mp z).1)
theorem wo_pk {r : Nat} : ∀ {S : List Nat} (_ : pk S), pk (wo r S)
  | [], h => h
  | q :: S, h => by
    by_cases e : q / 2 = r
    · rw [wo_n e]; exact wo_pk h.2
    · rw [wo_y e]; exact ⟨fun ho z => h.1 ho (wo_mem.mp z).1, wo_pk h.2⟩
theorem wo_le {r : Nat} (S : List Nat) : (wo r S).length ≤ S.length := List.length_filter_le _ S
theorem wo_len {r : Nat} {dx dy : Int} : ∀ (S : List Nat) (x y x' y' δ : Int) (_ : ∀ u w, pd_d x' y' u w + δ ≤ pd_d x y u w), pl_len v dx dy (wo r S) x' y' + δ ≤ pl_len v dx dy S x y
  | [], x, y, x', y', δ, h => h dx dy
  | q :: S, x, y, x', y', δ, h => by
    by_cases e : q / 2 = r
    · rw [wo_n e, pl_len]
      have := wo_len (r := r) (dx := dx) (dy := dy) S (v 0 q) (v 1 q) x' y' (δ - pd_d x y (v 0 q) (v 1 q)) (fun u w => by
        have h1 := h u w
        have h2 := pd_tri x y (v 0 q) (v 1 q) u w
        omega)
      omega
    · rw [wo_y e, pl_len, pl_len]
      have := wo_len (r := r) (dx := dx) (dy := dy) S (v 0 q) (v 1 q) (v 0 q) (v 1 q) 0 (fun u w => by omega)
      have := h (v 0 q) (v 1 q)
      omega
theorem wo_late {r : Nat} : ∀ (S : List Nat) (x y t x' y' t' : Int) (_ : ∀ u w, t' + pd_d x' y' u w ≤ t + pd_d x y u w) (_ : pl_late v S (pl_tm v S x y t) = false), pl_late v (wo r S) (pl_tm v (wo r S) x' y' t') = false
  | [], _, _, _, _, _, _, _, _ => rfl
  | q :: S, x, y, t, x', y', t', h, hl => by
    rw [pl_tm, late_c] at hl
    by_cases e : q / 2 = r
    · rw [wo_n e]
      exact wo_late S (v 0 q) (v 1 q) _ x' y' t' (fun u w => by
        have h1 := h u w
        have h2 := pd_tri x y (v 0 q) (v 1 q) u w
        omega) hl.2
    · rw [wo_y e, pl_tm, late_c]
      have h1 := h (v 0 q) (v 1 q)
      refine ⟨fun he => ?_, wo_late S (v 0 q) (v 1 q) _ (v 0 q) (v 1 q) _ (fun u w => by omega) hl.2⟩
      have := hl.1 he
      omega
/-- how much earlier a stop comes grows along the tour -/
theorem wo_at {r : Nat} : ∀ (S : List Nat) (x y t x' y' t' δ : Int) (_ : nd_L S) (_ : ∀ u w, t' + δ + pd_d x' y' u w ≤ t + pd_d x y u w),
    (∀ z, z ∈ S → ¬ z / 2 = r → at_ (wo r S) (pl_tm v (wo r S) x' y' t') z + δ ≤ at_ S (pl_tm v S x y t) z) ∧ ∀ z p, z ∈ S → ¬ z / 2 = r → p ∈ S → ¬ p / 2 = r → S.idxOf z < S.idxOf p → at_ (wo r S) (pl_tm v (wo r S) x' y' t') p - at_ (wo r S) (pl_tm v (wo r S) x' y' t') z ≤ at_ S (pl_tm v S x y t) p - at_ S (pl_tm v S x y t) z
  | [], _, _, _, _, _, _, _, _, _ => ⟨fun z hz => (nomatch hz), fun z p hz => (nomatch hz)⟩
  | q :: S, x, y, t, x', y', t', δ, hnd, h => by
    obtain ⟨hnd2, hq⟩ := nd_tail hnd
    have ix : ∀ z, z ∈ S → (q :: S).idxOf z = S.idxOf z + 1 := fun z hz => ix_ne (fun e => hq (e ▸ hz))
    by_cases e : q / 2 = r
    · obtain ⟨h1, h2⟩ := wo_at (r := r) S (v 0 q) (v 1 q) (t + pd_d x y (v 0 q) (v 1 q)) x' y' t' δ hnd2 (fun u w => by
        have h1 := h u w
        have h2 := pd_tri x y (v 0 q) (v 1 q) u w
        omega)
      rw [wo_n e, pl_tm]
      have hne : ∀ z, ¬ z / 2 = r → ¬ q = z := fun z hz e2 => hz (e2 ▸ e)
      have hin : ∀ z, z ∈ q :: S → ¬ z / 2 = r → z ∈ S := fun z hz hr => by
        rcases List.mem_cons.mp hz with h3 | h3
        · exact absurd h3.symm (hne z hr)
        · exact h3
      refine ⟨fun z hz hr => ?_, fun z p hz hr hp hpr hi => ?_⟩
      · rw [at_s (hne z hr)]
        exact h1 z (hin z hz hr) hr
      · rw [at_s (hne z hr), at_s (hne p hpr)]
        have hz2 := hin z hz hr
        have hp2 := hin p hp hpr
        rw [ix z hz2, ix p hp2] at hi
        exact h2 z p hz2 hr hp2 hpr (by omega)
    · have hδ := h (v 0 q) (v 1 q)
      obtain ⟨h1, h2⟩ := wo_at (r := r) S (v 0 q) (v 1 q) (t + pd_d x y (v 0 q) (v 1 q)) (v 0 q) (v 1 q) (t' + pd_d x' y' (v 0 q) (v 1 q)) (t + pd_d x y (v 0 q) (v 1 q) - (t' + pd_d x' y' (v 0 q) (v 1 q))) hnd2 (fun u w => by omega)
      rw [wo_y e, pl_tm, pl_tm]
      refine ⟨fun z hz hr => ?_, fun z p hz hr hp hpr hi => ?_⟩
      · by_cases e2 : q = z
        · subst e2
          rw [at_0, at_0]
          omega
        · rw [at_s e2, at_s e2]
          rcases List.mem_cons.mp hz with h3 | h3
          · exact absurd h3.symm e2
          · have := h1 z h3 hr
            omega
      · have hpq : ¬ q = p := fun e2 => by
          rw [← e2, List.idxOf_cons_self] at hi
          omega
        have hp2 : p ∈ S := by
          rcases List.mem_cons.mp hp with h3 | h3
          · exact absurd h3.symm hpq
          · exact h3
        rw [at_s hpq, at_s hpq]
        by_cases e2 : q = z
        · subst e2
          rw [at_0, at_0]
          have := h1 p hp2 hpr
          omega
        · have hz2 : z ∈ S := by
            rcases List.mem_cons.mp hz with h3 | h3
            · exact absurd h3.symm e2
            · exact h3
          rw [at_s e2, at_s e2]
          rw [ix z hz2, ix p hp2] at hi
          exact h2 z p hz2 hr hp2 hpr (by omega)
theorem wo_seat {r : Nat} {cap : Int} (hv : 0 ≤ v 2 r) : ∀ (S : List Nat) (n n' : Int) (_ : nd_L S) (_ : pk S) (_ : 2 * r ∈ S → 2 * r + 1 ∈ S) (_ : n' = n - if ¬ 2 * r ∈ S ∧ 2 * r + 1 ∈ S then v 2 r else 0) (_ : pl_seat v cap S n = false), pl_seat v cap (wo r S) n' = false
  | [], _, _, _, _, _, _, _ => rfl
  | q :: S, n, n', hnd, hp, hb, hn, hs => by
    obtain ⟨hnd2, hq⟩ := nd_tail hnd
    rw [seat_c] at hs
    by_cases e : q / 2 = r
    · rw [wo_n e]
      by_cases he : q = 2 * r
      · have h1 : 2 * r + 1 ∈ S := by
          rcases List.mem_cons.mp (hb (he ▸ List.mem_cons_self)) with h | h
          · omega
          · exact h
        have h0 : ¬ 2 * r ∈ S := he ▸ hq
        refine wo_seat hv S (n + pl_mv v q) n' hnd2 hp.2 (fun _ => h1) ?_ hs.2
        rw [if_pos ⟨h0, h1⟩, hn, if_neg (fun z => z.1 (he ▸ List.mem_cons_self))]
        unfold pl_mv
        rw [if_pos (by omega), e]
        omega
      · have ho : q = 2 * r + 1 := by omega
        have h1 : ¬ 2 * r + 1 ∈ S := ho ▸ hq
        have h0 : ¬ 2 * r ∈ S := by
          have := hp.1 (by omega)
          rw [show 2 * (q / 2) = 2 * r by omega] at this
          exact this
        refine wo_seat hv S (n + pl_mv v q) n' hnd2 hp.2 (fun z => absurd z h0) ?_ hs.2
        rw [if_neg (fun z => h1 z.2), hn, if_pos ⟨fun z => by
          rcases List.mem_cons.mp z with z | z
          · omega
          · exact h0 z, ho ▸ List.mem_cons_self⟩]
        unfold pl_mv
        rw [if_neg (by omega), e]
        omega
    · have m0 : 2 * r ∈ q :: S ↔ 2 * r ∈ S := by
        rw [List.mem_cons]
        exact ⟨fun z => z.elim (fun z => absurd z (by omega)) (fun z => z), Or.inr⟩
      have m1 : 2 * r + 1 ∈ q :: S ↔ 2 * r + 1 ∈ S := by
        rw [List.mem_cons]
        exact ⟨fun z => z.elim (fun z => absurd z (by omega)) (fun z => z), Or.inr⟩
      rw [m0, m1] at hb
      simp only [m0, m1] at hn
      rw [wo_y e, seat_c]
      refine ⟨?_, wo_seat hv S (n + pl_mv v q) (n' + pl_mv v q) hnd2 hp.2 hb (by rw [hn]; omega) hs.2⟩
      have : n' ≤ n := by
        rw [hn]
        split <;> omega
      omega
/-- a waiting request taken out -/
theorem fault_wo {r : Nat} {S : List Nat} {x y now onb cap dx dy chg : Int} (hv : 0 ≤ v 2 r) (hnd : nd_L S) (hp : pk S) (h0 : 2 * r ∈ S) (h1 : 2 * r + 1 ∈ S) (h : pl_fault v S x y now onb cap dx dy chg = 0) : pl_fault v (wo r S) x y now onb cap dx dy chg = 0 := by
  rw [fault_c] at h ⊢
  obtain ⟨h6, hs, hl, hg, hc⟩ := h
  refine ⟨Nat.le_trans (wo_le S) h6, wo_seat hv S onb onb hnd hp (fun _ => h1) (by rw [if_neg (fun z => z.1 h0)]; omega) hs, wo_late S x y now x y now (fun u w => Int.le_refl _) hl, ?_, ?_⟩
  · rw [long_sub _ _ (pl_tm_len v _ x y now) (wo_nd hnd)]
    rw [long_sub _ _ (pl_tm_len v S x y now) hnd] at hg
    obtain ⟨w1, w2⟩ := wo_at (v := v) (r := r) S x y now x y now 0 hnd (fun u w => by omega)
    intro p hpm ho
    obtain ⟨hpS, hpr⟩ := wo_mem.mp hpm
    have h3 := hg p hpS ho
    rw [since_at] at h3 ⊢
    by_cases hm : 2 * (p / 2) ∈ S
    · have hm2 : 2 * (p / 2) ∈ wo r S := wo_mem.mpr ⟨hm, by omega⟩
      rw [if_pos hm] at h3
      rw [if_pos hm2]
      have hix : S.idxOf (2 * (p / 2)) < S.idxOf p := by
        have g1 := gd_idx (d := 0) hm
        have g2 := gd_idx (d := 0) hpS
        rcases Nat.lt_trichotomy (S.idxOf (2 * (p / 2))) (S.idxOf p) with hh | hh | hh
        · exact hh
        · rw [hh, g2.2] at g1
          omega
        · have := (pk_iff S).mp hp _ _ hh g1.1 (by rw [g2.2]; exact ho)
          rw [g1.2, g2.2] at this
          exact absurd rfl this
      have := w2 _ _ hm (by omega) hpS hpr hix
      omega
    · have hm2 : ¬ 2 * (p / 2) ∈ wo r S := fun z => hm (wo_mem.mp z).1
      rw [if_neg hm] at h3
      rw [if_neg hm2]
      have := w1 p hpS hpr
      omega
  · have := wo_len (v := v) (r := r) (dx := dx) (dy := dy) S x y x y 0 (fun u w => by omega)
    omega
theorem er_wo {r : Nat} : ∀ {S : List Nat} (_ : nd_L S), (S.erase (2 * r)).erase (2 * r + 1) = wo r S := by
  have one : ∀ (z : Nat) {S : List Nat} (_ : nd_L S), S.erase z = S.filter (fun q => decide (q ≠ z)) := by
    intro z S
    induction S with
    | nil => intro _; rfl
    | cons q S ih =>
      intro h
      obtain ⟨h1, h2⟩ := nd_tail h
      by_cases e : q = z
      · subst e
        rw [List.erase_cons_head, List.filter_cons_of_neg (by simp)]
        exact (List.filter_eq_self.mpr (fun a ha => by
          have : a ≠ q := fun e => h2 (e ▸ ha)
          simpa using this)).symm
      · rw [List.erase_cons_tail (by simpa using e), List.filter_cons_of_pos (by simpa using e), ih h1]
  intro S h
  have h1 : nd_L (S.filter (fun q => decide (q ≠ 2 * r))) := by
    have : ∀ {S : List Nat} (_ : nd_L S), nd_L (S.filter (fun q => decide (q ≠ 2 * r))) := by
      intro S
      induction S with
      | nil => intro h; exact h
      | cons q S ih =>
        intro h
        obtain ⟨h1, h2⟩ := nd_tail h
        by_cases e : q = 2 * r
        · rw [List.filter_cons_of_neg (by simpa using e)]; exact ih h1
        · rw [List.filter_cons_of_pos (by simpa using e)]; exact nd_cons (ih h1) (fun z => h2 (List.mem_filter.mp z).1)
    exact this h
  rw [one _ h, one _ h1, List.filter_filter]
  refine List.filter_congr (fun q _ => ?_)
  rw [Bool.eq_iff_iff]
  simp only [Bool.and_eq_true, decide_eq_true_eq]
  omega
end LE
