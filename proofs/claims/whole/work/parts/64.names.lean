/-! Requests by other numbers. -/
def sg (ρ : Nat → Nat) (q : Nat) : Nat := 2 * ρ (q / 2) + q % 2
theorem sg_h (ρ : Nat → Nat) (q : Nat) : sg ρ q / 2 = ρ (q / 2) := by
  unfold sg
  omega
theorem sg_p (ρ : Nat → Nat) (q : Nat) : sg ρ q % 2 = q % 2 := by
  unfold sg
  omega
theorem sg_0 (ρ : Nat → Nat) (r : Nat) : sg ρ (2 * r) = 2 * ρ r := by
  unfold sg
  rw [show 2 * r / 2 = r by omega, show 2 * r % 2 = 0 by omega]
  rfl
theorem sg_1 (ρ : Nat → Nat) (r : Nat) : sg ρ (2 * r + 1) = 2 * ρ r + 1 := by
  unfold sg
  rw [show (2 * r + 1) / 2 = r by omega, show (2 * r + 1) % 2 = 1 by omega]
theorem sg_id (q : Nat) : sg (fun r => r) q = q := by
  show 2 * (q / 2) + q % 2 = q
  omega
theorem sg_fix {ρ : Nat → Nat} : ∀ {S : List Nat} (_ : ∀ q, q ∈ S → ρ (q / 2) = q / 2), S.map (sg ρ) = S
  | [], _ => rfl
  | q :: S, h => by
    rw [List.map_cons, sg_fix (fun q2 h2 => h q2 (List.mem_cons_of_mem _ h2))]
    have : sg ρ q = q := by
      unfold sg
      rw [h q List.mem_cons_self]
      omega
    rw [this]
/-- the same numbers under other names -/
def rn (ρ : Nat → Nat) (v v' : Nat → Nat → Int) (R : Nat → Prop) : Prop :=
  (∀ a b, R a → R b → ρ a = ρ b → a = b) ∧ (∀ q, R (q / 2) → v' 0 (sg ρ q) = v 0 q ∧ v' 1 (sg ρ q) = v 1 q) ∧ ∀ r, R r → v' 2 (ρ r) = v 2 r ∧ v' 3 (ρ r) = v 3 r ∧ v' 4 (ρ r) = v 4 r ∧ v' 5 (ρ r) = v 5 r
section RN
variable {ρ : Nat → Nat} {v v' : Nat → Nat → Int} {R : Nat → Prop}
theorem rn_inj (h : rn ρ v v' R) {p q : Nat} (hp : R (p / 2)) (hq : R (q / 2)) (e : sg ρ p = sg ρ q) : p = q := by
  have h1 := h.1 _ _ hp hq (by rw [← sg_h ρ p, ← sg_h ρ q, e])
  have h2 : p % 2 = q % 2 := by rw [← sg_p ρ p, ← sg_p ρ q, e]
  omega
theorem rn_mem (h : rn ρ v v' R) {z : Nat} (hz : R (z / 2)) : ∀ {S : List Nat} (_ : ∀ q, q ∈ S → R (q / 2)), sg ρ z ∈ S.map (sg ρ) ↔ z ∈ S := fun {S} hS => by
  constructor
  · intro hm
    obtain ⟨q, hq, e⟩ := List.mem_map.mp hm
    rw [← rn_inj h (hS q hq) hz e]
    exact hq
  · intro hm
    exact List.mem_map.mpr ⟨z, hm, rfl⟩
theorem rn_idx (h : rn ρ v v' R) {z : Nat} (hz : R (z / 2)) : ∀ {S : List Nat} (_ : ∀ q, q ∈ S → R (q / 2)), (S.map (sg ρ)).idxOf (sg ρ z) = S.idxOf z
  | [], _ => rfl
  | q :: S, hS => by
    rw [List.map_cons, List.idxOf_cons, List.idxOf_cons, rn_idx h hz (fun q2 h2 => hS q2 (List.mem_cons_of_mem _ h2))]
    by_cases e : q = z
    · subst e
      rw [beq_self_eq_true, beq_self_eq_true]
    · have e2 : ¬ sg ρ q = sg ρ z := fun z2 => e (rn_inj h (hS q List.mem_cons_self) hz z2)
      rw [beq_eq_false_iff_ne.mpr e, beq_eq_false_iff_ne.mpr e2]
theorem rn_len (h : rn ρ v v' R) {dx dy : Int} : ∀ {S : List Nat} (_ : ∀ q, q ∈ S → R (q / 2)) (x y : Int), pl_len v' dx dy (S.map (sg ρ)) x y = pl_len v dx dy S x y
  | [], _, _, _ => rfl
  | q :: S, hS, x, y => by
    obtain ⟨e0, e1⟩ := h.2.1 q (hS q List.mem_cons_self)
    rw [List.map_cons, pl_len, pl_len, e0, e1, rn_len h (fun q2 h2 => hS q2 (List.mem_cons_of_mem _ h2))]
theorem rn_tm (h : rn ρ v v' R) : ∀ {S : List Nat} (_ : ∀ q, q ∈ S → R (q / 2)) (x y t : Int), pl_tm v' (S.map (sg ρ)) x y t = pl_tm v S x y t
  | [], _, _, _, _ => rfl
  | q :: S, hS, x, y, t => by
    obtain ⟨e0, e1⟩ := h.2.1 q (hS q List.mem_cons_self)
    rw [List.map_cons, pl_tm, pl_tm, e0, e1, rn_tm h (fun q2 h2 => hS q2 (List.mem_cons_of_mem _ h2))]
theorem rn_mv (h : rn ρ v v' R) {q : Nat} (hq : R (q / 2)) : pl_mv v' (sg ρ q) = pl_mv v q := by
  unfold pl_mv
  rw [sg_p, sg_h, (h.2.2 _ hq).1]
theorem rn_seat (h : rn ρ v v' R) {cap : Int} : ∀ {S : List Nat} (_ : ∀ q, q ∈ S → R (q / 2)) (n : Int), pl_seat v' cap (S.map (sg ρ)) n = pl_seat v cap S n
  | [], _, _ => rfl
  | q :: S, hS, n => by
    rw [List.map_cons, pl_seat, pl_seat, rn_mv h (hS q List.mem_cons_self), rn_seat h (fun q2 h2 => hS q2 (List.mem_cons_of_mem _ h2))]
theorem rn_late (h : rn ρ v v' R) : ∀ {S : List Nat} (_ : ∀ q, q ∈ S → R (q / 2)) (T : List Int), pl_late v' (S.map (sg ρ)) T = pl_late v S T
  | [], _, T => by cases T <;> rfl
  | q :: S, _, [] => rfl
  | q :: S, hS, t :: T => by
    rw [List.map_cons, pl_late, pl_late, sg_p, sg_h, (h.2.2 _ (hS q List.mem_cons_self)).2.1, rn_late h (fun q2 h2 => hS q2 (List.mem_cons_of_mem _ h2))]
theorem rn_since (h : rn ρ v v' R) {S : List Nat} (hS : ∀ q, q ∈ S → R (q / 2)) (T : List Int) {q : Nat} (hq : R (q / 2)) : pl_since v' (S.map (sg ρ)) T (sg ρ q) = pl_since v S T q := by
  have hz : R (2 * (q / 2) / 2) := by rw [show 2 * (q / 2) / 2 = q / 2 by omega]; exact hq
  unfold pl_since
  rw [sg_h, ← sg_0, rn_idx h hz hS, (h.2.2 _ hq).2.2.2]
  by_cases hm : 2 * (q / 2) ∈ S
  · rw [if_pos hm, if_pos ((rn_mem h hz hS).mpr hm)]
  · rw [if_neg hm, if_neg (fun z => hm ((rn_mem h hz hS).mp z))]
theorem rn_long (h : rn ρ v v' R) {S0 : List Nat} (hS0 : ∀ q, q ∈ S0 → R (q / 2)) (T0 : List Int) : ∀ {S : List Nat} (_ : ∀ q, q ∈ S → R (q / 2)) (T : List Int), pl_long v' (S0.map (sg ρ)) T0 (S.map (sg ρ)) T = pl_long v S0 T0 S T
  | [], _, T => by cases T <;> rfl
  | q :: S, _, [] => rfl
  | q :: S, hS, t :: T => by
    rw [List.map_cons, pl_long, pl_long, sg_p, sg_h, (h.2.2 _ (hS q List.mem_cons_self)).2.2.1, rn_since h hS0 T0 (hS q List.mem_cons_self), rn_long h hS0 T0 (fun q2 h2 => hS q2 (List.mem_cons_of_mem _ h2))]
theorem rn_fault (h : rn ρ v v' R) {S : List Nat} (hS : ∀ q, q ∈ S → R (q / 2)) (x y now onb cap dx dy chg : Int) : pl_fault v' (S.map (sg ρ)) x y now onb cap dx dy chg = pl_fault v S x y now onb cap dx dy chg := by
  unfold pl_fault
  rw [List.length_map, rn_tm h hS, rn_seat h hS, rn_late h hS, rn_long h hS _ hS, rn_len h hS]
theorem rn_lay {r i j : Nat} : ∀ (S : List Nat) (k : Nat), lay_f (ρ r) i j (S.map (sg ρ)) k = (lay_f r i j S k).map (sg ρ)
  | [], k => by
    rw [List.map_nil, lay_f, lay_f, List.map_append]
    congr 1
    · split
      · rw [List.map_cons, sg_0, List.map_nil]
      · rfl
    · split
      · rw [List.map_cons, sg_1, List.map_nil]
      · rfl
  | q :: S, k => by
    rw [List.map_cons, lay_f, lay_f, List.map_append, List.map_append, List.map_cons, rn_lay S (k + 1)]
    congr 1
    congr 1
    · split
      · rw [List.map_cons, sg_0, List.map_nil]
      · rfl
    · split
      · rw [List.map_cons, sg_1, List.map_nil]
      · rfl
/-- what a search sees of a bus -/
def bq (β β' : Nat → Int) : Prop := β' 1 = β 1 ∧ β' 3 = β 3 ∧ β' 4 = β 4 ∧ β' 6 = β 6 ∧ β' 7 = β 7 ∧ β' 8 = β 8 ∧ β' 9 = β 9
theorem lay_R {r i j : Nat} {S : List Nat} {k : Nat} (hr : R r) (hS : ∀ q, q ∈ S → R (q / 2)) : ∀ q, q ∈ lay_f r i j S k → R (q / 2) := fun q hq => by
  rcases lay_mem S k q hq with h | h | h
  · rw [h, show 2 * r / 2 = r by omega]; exact hr
  · rw [h, show (2 * r + 1) / 2 = r by omega]; exact hr
  · exact hS q h
theorem rn_in (h : rn ρ v v' R) {β β' : Nat → Int} (hb : bq β β') {S : List Nat} (hS : ∀ q, q ∈ S → R (q / 2)) {r : Nat} (hr : R r) {now : Int} {b i j : Nat} {s : pa_S} : pa_in v' β' (S.map (sg ρ)) (ρ r) now b i j s = pa_in v β S r now b i j s := by
  obtain ⟨b1, b3, b4, b6, b7, b8, b9⟩ := hb
  have hL := lay_R (i := i) (j := j) (k := 0) hr hS
  unfold pa_in
  rw [b1, b3, b4, b6, b7, b8, b9, rn_lay, rn_fault h hL, rn_len h hL, rn_len h hS]
theorem rn_j (h : rn ρ v v' R) {β β' : Nat → Int} (hb : bq β β') {S : List Nat} (hS : ∀ q, q ∈ S → R (q / 2)) {r : Nat} (hr : R r) {now : Int} {b i : Nat} {s : pa_S} : ∀ d, pa_j v' β' (S.map (sg ρ)) (ρ r) now b i d s = pa_j v β S r now b i d s
  | 0 => rfl
  | d + 1 => by rw [pa_j, pa_j, rn_in h hb hS hr, rn_j h hb hS hr d]
theorem rn_i (h : rn ρ v v' R) {β β' : Nat → Int} (hb : bq β β') {S : List Nat} (hS : ∀ q, q ∈ S → R (q / 2)) {r : Nat} (hr : R r) {now : Int} {b : Nat} {s : pa_S} : ∀ i, pa_i v' β' (S.map (sg ρ)) (ρ r) now b i s = pa_i v β S r now b i s
  | 0 => rfl
  | i + 1 => by rw [pa_i, pa_i, List.length_map, rn_j h hb hS hr, rn_i h hb hS hr i]
theorem rn_b (h : rn ρ v v' R) {B B' : Nat → Nat → Int} {TS : Nat → List Nat} {r : Nat} (hr : R r) {now : Int} {s : pa_S} : ∀ (nb : Nat) (_ : ∀ b, b < nb → bq (B b) (B' b) ∧ (∀ q, q ∈ TS b → R (q / 2)) ∧ ∀ q, q ∈ TS b → ρ (q / 2) = q / 2), pa_b v' B' TS (ρ r) now nb s = pa_b v B TS r now nb s
  | 0, _ => rfl
  | b + 1, hT => by
    obtain ⟨h1, h2, h3⟩ := hT b (Nat.lt_succ_self _)
    have h4 := rn_i h h1 h2 hr (now := now) (b := b) (s := pa_b v B TS r now b s) ((TS b).length + 1)
    rw [sg_fix h3] at h4
    rw [pa_b, pa_b, rn_b h hr b (fun c hc => hT c (Nat.lt_succ_of_lt hc)), h4]
end RN
/-- the same numbers -/
def cg (v v' : Nat → Nat → Int) (R : Nat → Prop) : Prop := (∀ q, R (q / 2) → v' 0 q = v 0 q ∧ v' 1 q = v 1 q) ∧ ∀ r, R r → v' 2 r = v 2 r ∧ v' 3 r = v 3 r ∧ v' 4 r = v 4 r ∧ v' 5 r = v 5 r
section CG
variable {v v' : Nat → Nat → Int} {R : Nat → Prop} {S : List Nat}
theorem cg_rn (h : cg v v' R) : rn (fun r => r) v v' R := ⟨fun _ _ _ _ e => e, fun q hq => by rw [sg_id]; exact h.1 q hq, fun r hr => h.2 r hr⟩
theorem map_sg : S.map (sg (fun r => r)) = S := sg_fix (fun _ _ => rfl)
theorem cg_len (h : cg v v' R) (hS : ∀ q, q ∈ S → R (q / 2)) (dx dy x y : Int) : pl_len v' dx dy S x y = pl_len v dx dy S x y := by
  have := rn_len (cg_rn h) (dx := dx) (dy := dy) hS x y
  rw [map_sg] at this
  exact this
theorem cg_tm (h : cg v v' R) (hS : ∀ q, q ∈ S → R (q / 2)) (x y t : Int) : pl_tm v' S x y t = pl_tm v S x y t := by
  have := rn_tm (cg_rn h) hS x y t
  rw [map_sg] at this
  exact this
theorem cg_fault (h : cg v v' R) (hS : ∀ q, q ∈ S → R (q / 2)) (x y now onb cap dx dy chg : Int) : pl_fault v' S x y now onb cap dx dy chg = pl_fault v S x y now onb cap dx dy chg := by
  have := rn_fault (cg_rn h) hS x y now onb cap dx dy chg
  rw [map_sg] at this
  exact this
theorem cg_ln (h : cg v v' R) {β β' : Nat → Int} (hb : bq β β') (hS : ∀ q, q ∈ S → R (q / 2)) : ln v' β' S = ln v β S := by
  obtain ⟨-, b3, b4, b6, b7, -⟩ := hb
  unfold ln
  rw [b3, b4, b6, b7, cg_len h hS]
theorem cg_fe (h : cg v v' R) {β β' : Nat → Int} (hb : bq β β') {now : Int} (hS : ∀ q, q ∈ S → R (q / 2)) : fe v' β' now S ↔ fe v β now S := by
  obtain ⟨b1, b3, b4, b6, b7, b8, b9⟩ := hb
  unfold fe
  rw [b1, b3, b4, b6, b7, b8, b9, cg_fault h hS]
theorem cg_mn (h : cg v v' R) {β β' : Nat → Int} (hb : bq β β') {now : Int} (hS : ∀ q, q ∈ S → R (q / 2)) {F : List Nat} {c : Int} (hm : mn (ln v' β') (fun G => pm_L S G ∧ fe v' β' now G) F c) : mn (ln v β) (fun G => pm_L S G ∧ fe v β now G) F c := by
  have hR : ∀ {G : List Nat}, pm_L S G → ∀ q, q ∈ G → R (q / 2) := fun hG q hq => hS q ((hG.2.2 q).mp hq)
  refine ⟨⟨hm.1.1, (cg_fe h hb (hR hm.1.1)).mp hm.1.2⟩, by rw [hm.2.1, cg_ln h hb (hR hm.1.1)], fun G hG => ?_⟩
  have := hm.2.2 G ⟨hG.1, (cg_fe h hb (hR hG.1)).mpr hG.2⟩
  rw [cg_ln h hb (hR hG.1)] at this
  exact this
theorem cg_du (h : cg v v' R) (x y : Int) : ∀ {S : List Nat} (_ : ∀ q, q ∈ S → R (q / 2)), du_n v' x y S = du_n v x y S
  | [], _ => rfl
  | q :: S, hS => by
    obtain ⟨e0, e1⟩ := h.1 q (hS q List.mem_cons_self)
    rw [du_n, du_n, e0, e1, cg_du h x y (fun q2 h2 => hS q2 (List.mem_cons_of_mem _ h2))]
theorem cg_b (h : cg v v' R) {B B' : Nat → Nat → Int} {TS : Nat → List Nat} {r : Nat} (hr : R r) {now : Int} {s : pa_S} (nb : Nat) (hT : ∀ b, b < nb → bq (B b) (B' b) ∧ ∀ q, q ∈ TS b → R (q / 2)) : pa_b v' B' TS r now nb s = pa_b v B TS r now nb s :=
  rn_b (cg_rn h) hr nb (fun b hb => ⟨(hT b hb).1, (hT b hb).2, fun _ _ => rfl⟩)
end CG
section VW
variable {v v2 : Nat → Nat → Int} {nr : Nat} {x y u z n lp lr : Int}
/-- the wish taken in at nr, and at 30 -/
theorem vw_rn (hnr : nr ≤ 30) (h : cg v v2 (fun r => r < nr)) (h5 : v2 5 30 = v 5 nr) : rn (fun a => if a = nr then 30 else a) (vw_f v nr x y u z n lp lr) (vw_f v2 30 x y u z n lp lr) (fun a => a ≤ nr) := by
  refine ⟨fun a b ha hb e => ?_, fun q hq => ?_, fun r hr => ?_⟩
  · dsimp only at e ha hb
    split at e <;> split at e <;> omega
  · dsimp only at hq
    rw [vw_0, vw_1, vw_0, vw_1, sg_h, sg_p]
    by_cases e : q / 2 = nr
    · rw [if_pos e, if_pos rfl, if_pos e, if_pos rfl, if_pos e]
      exact ⟨rfl, rfl⟩
    · have e2 : sg (fun a => if a = nr then 30 else a) q = q := by
        show 2 * (if q / 2 = nr then 30 else q / 2) + q % 2 = q
        rw [if_neg e]
        omega
      rw [if_neg e, if_neg e, if_neg (by omega), if_neg (by omega), if_neg e, e2]
      exact h.1 q (by omega)
  · dsimp only at hr ⊢
    by_cases e : r = nr
    · rw [if_pos e, vw_2, vw_3, vw_4, vw_5, vw_2, vw_3, vw_4, vw_5, if_pos rfl, if_pos rfl, if_pos rfl, if_pos e, if_pos e, if_pos e, e]
      exact ⟨rfl, rfl, rfl, h5⟩
    · rw [if_neg e, vw_2, vw_3, vw_4, vw_5, vw_2, vw_3, vw_4, vw_5]
      simp only [if_neg e, if_neg (show ¬ r = 30 by omega)]
      exact h.2 r (by omega)
/-- the wish taken in at nr on both sides -/
theorem vw_cg (h : cg v v2 (fun r => r < nr)) (h5 : v2 5 nr = v 5 nr) : cg (vw_f v nr x y u z n lp lr) (vw_f v2 nr x y u z n lp lr) (fun a => a ≤ nr) := by
  refine ⟨fun q hq => ?_, fun r hr => ?_⟩
  · rw [vw_0, vw_1, vw_0, vw_1]
    by_cases e : q / 2 = nr
    · rw [if_pos e, if_pos e, if_pos e, if_pos e]
      exact ⟨rfl, rfl⟩
    · rw [if_neg e, if_neg e, if_neg e, if_neg e]
      exact h.1 q (by dsimp only at hq; omega)
  · rw [vw_2, vw_3, vw_4, vw_5, vw_2, vw_3, vw_4, vw_5]
    by_cases e : r = nr
    · rw [if_pos e, if_pos e, if_pos e, if_pos e, if_pos e, if_pos e, e]
      exact ⟨rfl, rfl, rfl, h5⟩
    · rw [if_neg e, if_neg e, if_neg e, if_neg e, if_neg e, if_neg e]
      exact h.2 r (by dsimp only at hr; omega)
end VW
