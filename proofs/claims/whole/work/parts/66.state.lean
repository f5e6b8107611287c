/-! What holds between the calls: buses, requests, tours, journal. -/
/-- the numbers of the stops and requests of a table -/
def vC (a : Nat → Nat → Int) : Nat → Nat → Int := fun c i => if c = 0 then pd_x a i else if c = 1 then pd_y a i else if c = 2 then a (300 + i) 4 else if c = 3 then a (300 + i) 6 else if c = 4 then a (300 + i) 7 else a (300 + i) 11
/-- a bus -/
def bu (a : Nat → Nat → Int) (b : Nat) : Prop := a (200 + b) 0 = (b : Int) ∧ (1 ≤ a (200 + b) 1 ∧ a (200 + b) 1 ≤ 6) ∧ (20 ≤ a (200 + b) 2 ∧ a (200 + b) 2 ≤ 200) ∧ (0 ≤ a (200 + b) 3 ∧ a (200 + b) 3 ≤ 20) ∧ (0 ≤ a (200 + b) 4 ∧ a (200 + b) 4 ≤ 20) ∧ (0 ≤ a (200 + b) 6 ∧ a (200 + b) 6 ≤ 20) ∧ (0 ≤ a (200 + b) 7 ∧ a (200 + b) 7 ≤ 20) ∧ a (200 + b) 8 ≤ 200 ∧ a (200 + b) 9 ≤ a (200 + b) 1 ∧ 0 ≤ a (200 + b) 10
/-- a request -/
def rq (a : Nat → Nat → Int) (nb r : Nat) : Prop := st_ok (a (300 + r) 8) ∧ (0 ≤ a (300 + r) 0 ∧ a (300 + r) 0 ≤ 20) ∧ (0 ≤ a (300 + r) 1 ∧ a (300 + r) 1 ≤ 20) ∧ (0 ≤ a (300 + r) 2 ∧ a (300 + r) 2 ≤ 20) ∧ (0 ≤ a (300 + r) 3 ∧ a (300 + r) 3 ≤ 20) ∧ (1 ≤ a (300 + r) 4 ∧ a (300 + r) 4 ≤ 6) ∧ a (300 + r) 5 = pd_d (a (300 + r) 0) (a (300 + r) 1) (a (300 + r) 2) (a (300 + r) 3) ∧ (0 ≤ a (300 + r) 6 ∧ a (300 + r) 6 ≤ 100000) ∧ (0 ≤ a (300 + r) 7 ∧ a (300 + r) 7 ≤ 1000) ∧ (a (300 + r) 8 = 120 → 1 ≤ a (300 + r) 9 ∧ a (300 + r) 9 ≤ 4) ∧ (a (300 + r) 8 ≠ 120 → ∃ b : Nat, b < nb ∧ a (300 + r) 10 = (b : Int)) ∧ (0 ≤ a (300 + r) 11 ∧ a (300 + r) 11 ≤ a 0 6) ∧ 0 ≤ a (300 + r) 12 ∧ a (300 + r) 12 ≤ a 0 6
/-- the riders of the first n requests in a bus -/
def ob (a : Nat → Nat → Int) (b : Nat) : Nat → Int
  | 0 => 0
  | k + 1 => if a (300 + k) 8 = 114 ∧ a (300 + k) 10 = (b : Int) then ob a b k + a (300 + k) 4 else ob a b k
/-- the stops of the first n buses -/
def sl (TS : Nat → List Nat) : Nat → Nat
  | 0 => 0
  | k + 1 => sl TS k + (TS k).length
/-- the tour of a bus -/
def tr (a : Nat → Nat → Int) (S : List Nat) (nr b : Nat) : Prop := nd_L S ∧ pk S ∧ ∀ q, q ∈ S ↔ (q / 2 < nr ∧ a (300 + q / 2) 10 = (b : Int) ∧ (a (300 + q / 2) 8 = 119 ∨ (q % 2 = 1 ∧ a (300 + q / 2) 8 = 114)))
/-- the journal -/
def jo (a : Nat → Nat → Int) (nb nr ne : Nat) : Prop := a 4 4 = (ne : Int) ∧ (∀ k, k < ne → (0 ≤ a 5 k ∧ a 5 k < (nb : Int)) ∧ 0 ≤ a 6 k ∧ a 6 k < (nr : Int)) ∧ (∀ r, r < nr → (a (300 + r) 8 = 119 → ∀ k, k < ne → a 6 k ≠ (r : Int)) ∧ (a (300 + r) 8 = 114 → ∃ k, k < ne ∧ a 6 k = (r : Int))) ∧
  ∀ b, b < nb → (jd_f a (vC a) (b : Int) ne).2.2 = a (200 + b) 9 ∧ a (200 + b) 11 = (jd_f a (vC a) (b : Int) ne).1 + (if (jd_f a (vC a) (b : Int) ne).2.2 = 0 then a (200 + b) 10 - (jd_f a (vC a) (b : Int) ne).2.1 else 0)
/-- all that -/
def BS (a : Nat → Nat → Int) (TS : Nat → List Nat) (nb nr : Nat) (tm : Int) : Prop := nb ≤ 4 ∧ nr ≤ 30 ∧ (0 ≤ a 0 6 ∧ a 0 6 ≤ tm) ∧ (0 ≤ a 0 7 ∧ a 0 7 ≤ 200) ∧ (0 ≤ a 0 8 ∧ a 0 8 ≤ 60) ∧ (∀ b, b < nb → bu a b) ∧ (∀ r, r < nr → rq a nb r) ∧ (∀ b, b < nb → tr a (TS b) nr b) ∧ (∀ b, b < nb → a (200 + b) 9 = ob a b nr) ∧ ∃ ne, jo a nb nr ne ∧ ne + sl TS nb ≤ 2 * nr
/-- the tour of the bus b has no fault -/
def fb (a : Nat → Nat → Int) (S : List Nat) (b : Nat) (now : Int) : Prop := pl_fault (vC a) S (a (200 + b) 6) (a (200 + b) 7) now (a (200 + b) 9) (a (200 + b) 1) (a (200 + b) 3) (a (200 + b) 4) (a (200 + b) 8) = 0
/-- no stop is due -/
def nu (a : Nat → Nat → Int) (S : List Nat) (b : Nat) : Prop := du_n (vC a) (a (200 + b) 6) (a (200 + b) 7) S = 0
/-- what holds of a bus at a time -/
def pb (a : Nat → Nat → Int) (S : List Nat) (b : Nat) (t : Int) : Prop := fb a S b t ∧ nu a S b ∧ a (200 + b) 10 ≤ t
def ST (a : Nat → Nat → Int) (TS : Nat → List Nat) (nb nr : Nat) (tm : Int) : Prop := BS a TS nb nr tm ∧ ∀ b, b < nb → pb a (TS b) b (a 0 6)
def tset (TS : Nat → List Nat) (b : Nat) (S : List Nat) : Nat → List Nat := fun c => if c = b then S else TS c
theorem tset_s {TS : Nat → List Nat} {b : Nat} {S : List Nat} : tset TS b S b = S := if_pos rfl
theorem tset_o {TS : Nat → List Nat} {b c : Nat} {S : List Nat} (h : c ≠ b) : tset TS b S c = TS c := if_neg h
theorem sl_set {TS : Nat → List Nat} {b : Nat} {S : List Nat} : ∀ n, sl (tset TS b S) n + (if b < n then (TS b).length else 0) = sl TS n + if b < n then S.length else 0
  | 0 => rfl
  | n + 1 => by
    have h := sl_set (TS := TS) (b := b) (S := S) n
    show sl (tset TS b S) n + (tset TS b S n).length + _ = sl TS n + (TS n).length + _
    by_cases e : n = b
    · subst e
      rw [tset_s, if_pos (Nat.lt_succ_self _), if_pos (Nat.lt_succ_self _)]
      rw [if_neg (Nat.lt_irrefl _), if_neg (Nat.lt_irrefl _)] at h
      omega
    · rw [tset_o e]
      by_cases h2 : b < n
      · rw [if_pos h2, if_pos h2] at h
        rw [if_pos (by omega), if_pos (by omega)]
        omega
      · rw [if_neg h2, if_neg h2] at h
        rw [if_neg (by omega), if_neg (by omega)]
        omega
section VCL
variable {a a2 : Nat → Nat → Int} {nb nr b : Nat} {TS : Nat → List Nat} {tm : Int} {S : List Nat}
theorem vC_cg {R : Nat → Prop} (h : ∀ r, R r → ∀ i, i < 8 ∨ i = 11 → a2 (300 + r) i = a (300 + r) i) : cg (vC a) (vC a2) R := by
  refine ⟨fun q hq => ?_, fun r hr => ⟨h r hr 4 (by decide), h r hr 6 (by decide), h r hr 7 (by decide), h r hr 11 (by decide)⟩⟩
  show pd_x a2 q = pd_x a q ∧ pd_y a2 q = pd_y a q
  unfold pd_x pd_y
  rw [h _ hq 0 (by decide), h _ hq 1 (by decide), h _ hq 2 (by decide), h _ hq 3 (by decide)]
  exact ⟨rfl, rfl⟩
theorem tr_R (h : tr a S nr b) : ∀ q, q ∈ S → q / 2 < nr := fun q hq => ((h.2.2 q).mp hq).1
theorem ob_0 (h : ∀ r, r < nr → rq a nb r) : ∀ n, n ≤ nr → 0 ≤ ob a b n
  | 0, _ => Int.le_refl _
  | n + 1, hn => by
    have h1 := ob_0 h n (by omega)
    have h2 := (h n (by omega)).2.2.2.2.2.1
    rw [ob]
    split <;> omega
theorem ob_cg (h : ∀ k, k < nr → (a2 (300 + k) 8 = 114 ∧ a2 (300 + k) 10 = (b : Int) ↔ a (300 + k) 8 = 114 ∧ a (300 + k) 10 = (b : Int)) ∧ a2 (300 + k) 4 = a (300 + k) 4) : ∀ n, n ≤ nr → ob a2 b n = ob a b n
  | 0, _ => rfl
  | n + 1, hn => by
    obtain ⟨h1, h2⟩ := h n (by omega)
    rw [ob, ob, ob_cg h n (by omega), h2]
    by_cases hz : a (300 + n) 8 = 114 ∧ a (300 + n) 10 = (b : Int)
    · rw [if_pos hz, if_pos (h1.mpr hz)]
    · rw [if_neg hz, if_neg (fun z => hz (h1.mp z))]
theorem ob_one {r : Nat} {d : Int} (h : ∀ k, k < nr → k ≠ r → (a2 (300 + k) 8 = 114 ∧ a2 (300 + k) 10 = (b : Int) ↔ a (300 + k) 8 = 114 ∧ a (300 + k) 10 = (b : Int)) ∧ a2 (300 + k) 4 = a (300 + k) 4)
    (hr : (if a2 (300 + r) 8 = 114 ∧ a2 (300 + r) 10 = (b : Int) then a2 (300 + r) 4 else 0) = (if a (300 + r) 8 = 114 ∧ a (300 + r) 10 = (b : Int) then a (300 + r) 4 else 0) + d) : ∀ n, n ≤ nr → ob a2 b n = ob a b n + if r < n then d else 0
  | 0, _ => by
    rw [if_neg (Nat.not_lt_zero _)]
    rfl
  | n + 1, hn => by
    have ih := ob_one h hr n (by omega)
    rw [ob, ob, ih]
    by_cases e : n = r
    · subst e
      rw [if_neg (Nat.lt_irrefl _), if_pos (Nat.lt_succ_self _), Int.add_zero]
      split at hr <;> split at hr <;> omega
    · obtain ⟨h1, h2⟩ := h n (by omega) e
      rw [h2]
      by_cases hlt : r < n
      · rw [if_pos hlt, if_pos (show r < n + 1 by omega)]
        by_cases hz : a (300 + n) 8 = 114 ∧ a (300 + n) 10 = (b : Int)
        · rw [if_pos hz, if_pos (h1.mpr hz)]; omega
        · rw [if_neg hz, if_neg (fun z => hz (h1.mp z))]
      · rw [if_neg hlt, if_neg (show ¬ r < n + 1 by omega)]
        by_cases hz : a (300 + n) 8 = 114 ∧ a (300 + n) 10 = (b : Int)
        · rw [if_pos hz, if_pos (h1.mpr hz)]; omega
        · rw [if_neg hz, if_neg (fun z => hz (h1.mp z))]
theorem jf_cg {J J2 : Nat → Int} {x : Int} : ∀ {k : Nat} (_ : ∀ i, i < k → J2 i = J i), jf_b J2 x k = jf_b J x k
  | 0, _ => rfl
  | k + 1, h => by rw [jf_b, jf_b, jf_cg (fun i hi => h i (by omega)), h k (by omega)]
theorem jd_cg {v v2 : Nat → Nat → Int} {c : Int} : ∀ (k : Nat) (_ : ∀ i, i < k → a2 5 i = a 5 i ∧ a2 6 i = a 6 i ∧ a2 8 i = a 8 i ∧ v2 2 (a 6 i).toNat = v 2 (a 6 i).toNat), jd_f a2 v2 c k = jd_f a v c k
  | 0, _ => rfl
  | k + 1, h => by
    obtain ⟨h5, h6, h8, h2⟩ := h k (by omega)
    rw [jd_f, jd_f, jd_cg k (fun i hi => h i (by omega)), h5, h6, h8, h2, jf_cg (J := a 6) (J2 := a2 6) (fun i hi => (h i (by omega)).2.1)]
theorem jf_iff {J : Nat → Int} {x : Int} : ∀ (k : Nat), jf_b J x k = true ↔ ∀ i, i < k → J i ≠ x
  | 0 => ⟨fun _ i hi => absurd hi (Nat.not_lt_zero i), fun _ => rfl⟩
  | k + 1 => by
    rw [jf_b, Bool.and_eq_true, jf_iff k, decide_eq_true_iff]
    constructor
    · rintro ⟨h1, h2⟩ i hi
      by_cases e : i = k
      · rw [e]; exact h2
      · exact h1 i (by omega)
    · intro h
      exact ⟨fun i hi => h i (by omega), h k (by omega)⟩
end VCL
section MKE
variable {f : Nat → Nat → Int} {b q i r : Nat}
theorem mk_bus9 (hb : b < 90) : mk_T f b q (200 + b) 9 = f (200 + b) 9 + pl_mv (vC f) q := by
  unfold mk_T pl_mv
  rw [ii_up_o _ _ _ (by omega), ii_up_o _ _ _ (by omega), ii_up_o _ _ _ (by omega), ii_up_o _ _ _ (by omega), ii_up_o _ _ _ (by omega)]
  show _ = f (200 + b) 9 + (if q % 2 = 0 then f (300 + q / 2) 4 else -f (300 + q / 2) 4)
  split
  · rw [ii_up_s]
  · rw [ii_up_s]
    omega
theorem mk_4 (h : i ≠ 4) (hb : b < 90) : mk_T f b q 4 i = f 4 i := by
  unfold mk_T
  rw [ii_up_k _ _ h, ii_up_o _ _ _ (by omega), ii_up_o _ _ _ (by omega), ii_up_o _ _ _ (by omega), ii_up_o _ _ _ (by omega)]
  split
  · rw [ii_up_o _ _ _ (by omega), ii_up_o _ _ _ (by omega), ii_up_o _ _ _ (by omega)]
  · rw [ii_up_o _ _ _ (by omega), ii_up_o _ _ _ (by omega), ii_up_o _ _ _ (by omega)]
theorem mk_in {o : Nat} (h : 5 ≤ o ∧ o ≤ 8) : (if q % 2 = 0 then ii_up (ii_up (ii_up f (300 + q / 2) 8 114) (300 + q / 2) 11 (f 0 6)) (200 + b) 9 (f (200 + b) 9 + f (300 + q / 2) 4) else ii_up (ii_up (ii_up f (300 + q / 2) 8 100) (300 + q / 2) 12 (f 0 6)) (200 + b) 9 (f (200 + b) 9 - f (300 + q / 2) 4)) o i = f o i := by
  split
  · rw [ii_up_o _ _ _ (by omega), ii_up_o _ _ _ (by omega), ii_up_o _ _ _ (by omega)]
  · rw [ii_up_o _ _ _ (by omega), ii_up_o _ _ _ (by omega), ii_up_o _ _ _ (by omega)]
theorem mk_5 : mk_T f b q 5 i = if i = (f 4 4).toNat then f (200 + b) 0 else f 5 i := by
  unfold mk_T
  rw [ii_up_o _ _ _ (by omega), ii_up_o _ _ _ (by omega), ii_up_o _ _ _ (by omega), ii_up_o _ _ _ (by omega)]
  by_cases e : i = (f 4 4).toNat
  · rw [if_pos e, e, ii_up_s]
  · rw [if_neg e, ii_up_k _ _ e, mk_in (by omega)]
theorem mk_6 : mk_T f b q 6 i = if i = (f 4 4).toNat then ((q / 2 : Nat) : Int) else f 6 i := by
  unfold mk_T
  rw [ii_up_o _ _ _ (by omega), ii_up_o _ _ _ (by omega), ii_up_o _ _ _ (by omega)]
  by_cases e : i = (f 4 4).toNat
  · rw [if_pos e, e, ii_up_s]
  · rw [if_neg e, ii_up_k _ _ e, ii_up_o _ _ _ (by omega), mk_in (by omega)]
theorem mk_7 : mk_T f b q 7 i = if i = (f 4 4).toNat then f 0 6 else f 7 i := by
  unfold mk_T
  rw [ii_up_o _ _ _ (by omega), ii_up_o _ _ _ (by omega)]
  by_cases e : i = (f 4 4).toNat
  · rw [if_pos e, e, ii_up_s]
  · rw [if_neg e, ii_up_k _ _ e, ii_up_o _ _ _ (by omega), ii_up_o _ _ _ (by omega), mk_in (by omega)]
theorem mk_8 : mk_T f b q 8 i = if i = (f 4 4).toNat then f (200 + b) 10 else f 8 i := by
  unfold mk_T
  rw [ii_up_o _ _ _ (by omega)]
  by_cases e : i = (f 4 4).toNat
  · rw [if_pos e, e, ii_up_s]
  · rw [if_neg e, ii_up_k _ _ e, ii_up_o _ _ _ (by omega), ii_up_o _ _ _ (by omega), ii_up_o _ _ _ (by omega), mk_in (by omega)]
theorem mk_req8 (hb : b < 90) : mk_T f b q (300 + r) 8 = if r = q / 2 then (if q % 2 = 0 then 114 else 100) else f (300 + r) 8 := by
  unfold mk_T
  rw [ii_up_o _ _ _ (by omega), ii_up_o _ _ _ (by omega), ii_up_o _ _ _ (by omega), ii_up_o _ _ _ (by omega), ii_up_o _ _ _ (by omega)]
  by_cases h2 : q % 2 = 0
  · rw [if_pos h2, if_pos h2, ii_up_o _ _ _ (by omega)]
    by_cases hr : r = q / 2
    · rw [if_pos hr, hr, ii_up_k _ _ (by decide), ii_up_s]
    · rw [if_neg hr, ii_up_o _ _ _ (by omega), ii_up_o _ _ _ (by omega)]
  · rw [if_neg h2, if_neg h2, ii_up_o _ _ _ (by omega)]
    by_cases hr : r = q / 2
    · rw [if_pos hr, hr, ii_up_k _ _ (by decide), ii_up_s]
    · rw [if_neg hr, ii_up_o _ _ _ (by omega), ii_up_o _ _ _ (by omega)]
theorem mk_req12 (hb : b < 90) : mk_T f b q (300 + r) 12 = if r = q / 2 ∧ ¬ q % 2 = 0 then f 0 6 else f (300 + r) 12 := by
  unfold mk_T
  rw [ii_up_o _ _ _ (by omega), ii_up_o _ _ _ (by omega), ii_up_o _ _ _ (by omega), ii_up_o _ _ _ (by omega), ii_up_o _ _ _ (by omega)]
  by_cases h2 : q % 2 = 0
  · rw [if_pos h2, if_neg (fun z => z.2 h2), ii_up_o _ _ _ (by omega)]
    by_cases hr : 300 + r = 300 + q / 2
    · rw [hr, ii_up_k _ _ (by decide), ii_up_k _ _ (by decide)]
    · rw [ii_up_o _ _ _ hr, ii_up_o _ _ _ hr]
  · rw [if_neg h2, ii_up_o _ _ _ (by omega)]
    by_cases hr : r = q / 2
    · rw [if_pos ⟨hr, h2⟩, hr, ii_up_s]
    · rw [if_neg (fun z => hr z.1), ii_up_o _ _ _ (by omega), ii_up_o _ _ _ (by omega)]
end MKE
section STOP
variable {a : Nat → Nat → Int} {TS : Nat → List Nat} {nb nr b q : Nat} {tm : Int} {S : List Nat}
/-- a stop that is due is made -/
theorem bs_stop (h : BS a TS nb nr tm) (hb : b < nb) (hT : TS b = q :: S) (hf : fb a (q :: S) b (a 0 6)) (hd : pd_d (a (200 + b) 6) (a (200 + b) 7) (vC a 0 q) (vC a 1 q) ≤ 0) :
    BS (mk_T a b q) (tset TS b S) nb nr tm ∧ fb (mk_T a b q) S b (a 0 6) ∧ (∀ c, c < nb → c ≠ b → ∀ t, pb a (TS c) c t → pb (mk_T a b q) (TS c) c t) ∧ mk_T a b q 0 = a 0 ∧ (∀ i, i ≠ 9 → mk_T a b q (200 + b) i = a (200 + b) i) ∧ (∀ r, r < nr → ∀ i, i < 8 → mk_T a b q (300 + r) i = a (300 + r) i) := by
  obtain ⟨h4, h30, h6, h7, h8, hbu, hrq, htr, hob, ne, hjo, hsl⟩ := h
  have hTb := htr b hb
  rw [hT] at hTb
  obtain ⟨hnd, hpk, hmem⟩ := hTb
  obtain ⟨hnd2, hqS⟩ := nd_tail hnd
  obtain ⟨hqn, hqb, hqs⟩ := (hmem q).mp List.mem_cons_self
  have hq119 : q % 2 = 0 → a (300 + q / 2) 8 = 119 := fun he => by
    rcases hqs with h | h
    · exact h
    · omega
  have hq114 : ¬ q % 2 = 0 → a (300 + q / 2) 8 = 114 := fun ho => by
    rcases hqs with h | h
    · have := (hmem (2 * (q / 2))).mpr (by rw [show 2 * (q / 2) / 2 = q / 2 by omega]; exact ⟨hqn, hqb, Or.inl h⟩)
      rcases List.mem_cons.mp this with h2 | h2
      · omega
      · exact absurd h2 (hpk.1 ho)
    · exact h.2
  have e0 : mk_T a b q 0 = a 0 := mk_row (by omega) (by omega) (by omega)
  have ebus : ∀ c, c ≠ b → c < nb → mk_T a b q (200 + c) = a (200 + c) := fun c hc hcn => mk_row (by omega) (by omega) (by omega)
  have eb : ∀ i, i ≠ 9 → mk_T a b q (200 + b) i = a (200 + b) i := fun i hi => mk_bus (by omega) hi
  have eb9 : mk_T a b q (200 + b) 9 = a (200 + b) 9 + pl_mv (vC a) q := mk_bus9 (by omega)
  have er : ∀ r, r ≠ q / 2 → r < nr → mk_T a b q (300 + r) = a (300 + r) := fun r hr hrn => mk_row (by omega) (by omega) (by omega)
  have eri : ∀ r i, i ≠ 8 → i ≠ 11 → i ≠ 12 → mk_T a b q (300 + r) i = a (300 + r) i := fun r i h1 h2 h3 => mk_req (by omega) h1 h2 h3
  have er8 : mk_T a b q (300 + q / 2) 8 = if q % 2 = 0 then 114 else 100 := by rw [mk_req8 (by omega), if_pos rfl]
  have hx : vC a 0 q = a (200 + b) 6 ∧ vC a 1 q = a (200 + b) 7 := by
    unfold pd_d at hd
    omega
  have hRq := hrq _ hqn
  have hmv : pl_mv (vC a) q = if q % 2 = 0 then a (300 + q / 2) 4 else -a (300 + q / 2) 4 := rfl
  have hs9 := hob b hb
  have hseat : a (200 + b) 9 + pl_mv (vC a) q ≤ a (200 + b) 1 := (seat_c.mp (fault_c.mp hf).2.1).1
  have enz : (a 4 4).toNat = ne := by rw [hjo.1]; exact Int.toNat_natCast ne
  have hsl2 := sl_set (TS := TS) (b := b) (S := S) nb
  rw [if_pos hb, if_pos hb, hT] at hsl2
  have hcl : (q :: S).length = S.length + 1 := rfl
  refine ⟨⟨h4, h30, by rw [e0]; exact h6, by rw [e0]; exact h7, by rw [e0]; exact h8, fun c hc => ?_, fun r hr => ?_, fun c hc => ?_, fun c hc => ?_, ne + 1, ⟨?_, fun k hk => ?_, fun r hr => ?_, fun c hc => ?_⟩, by omega⟩, ?_, fun c hc hcb t hz => ⟨?_, ?_, by rw [ebus c hcb hc]; exact hz.2.2⟩, e0, eb, fun r hr i hi => eri r i (by omega) (by omega) (by omega)⟩
  · by_cases e : c = b
    · subst e
      have := hbu c hc
      unfold bu at this ⊢
      rw [eb 0 (by decide), eb 1 (by decide), eb 2 (by decide), eb 3 (by decide), eb 4 (by decide), eb 6 (by decide), eb 7 (by decide), eb 8 (by decide), eb9, eb 10 (by decide)]
      omega
    · have := hbu c hc
      unfold bu at this ⊢
      rw [ebus c e hc]
      exact this
  · by_cases e : r = q / 2
    · subst e
      obtain ⟨r0, r1, r2, r3, r4, r5, r6, r7, r8, r9, r10, r11, r12⟩ := hRq
      unfold rq
      rw [eri _ 0 (by decide) (by decide) (by decide), eri _ 1 (by decide) (by decide) (by decide), eri _ 2 (by decide) (by decide) (by decide), eri _ 3 (by decide) (by decide) (by decide), eri _ 4 (by decide) (by decide) (by decide), eri _ 5 (by decide) (by decide) (by decide), eri _ 6 (by decide) (by decide) (by decide), eri _ 7 (by decide) (by decide) (by decide), eri _ 9 (by decide) (by decide) (by decide), eri _ 10 (by decide) (by decide) (by decide), er8, mk_req11 (by omega), mk_req12 (by omega), e0]
      refine ⟨?_, r1, r2, r3, r4, r5, r6, r7, r8, fun z => ?_, fun _ => ⟨b, hb, hqb⟩, ?_, ?_⟩
      · unfold st_ok
        split <;> omega
      · split at z <;> omega
      · split <;> omega
      · split <;> omega
    · have := hrq r hr
      unfold rq at this ⊢
      rw [er r e hr, e0]
      exact this
  · have hstat : ∀ p : Nat, p / 2 ≠ q / 2 → p / 2 < nr → mk_T a b q (300 + p / 2) = a (300 + p / 2) := fun p hp hn => er _ hp hn
    by_cases e : c = b
    · subst e
      rw [tset_s]
      refine ⟨hnd2, hpk.2, fun z => ?_⟩
      have hz := hmem z
      rw [List.mem_cons] at hz
      constructor
      · intro hzS
        have hne : z ≠ q := fun e => hqS (e ▸ hzS)
        obtain ⟨z1, z2, z3⟩ := hz.mp (Or.inr hzS)
        by_cases e2 : z / 2 = q / 2
        · rw [e2, er8, eri _ 10 (by decide) (by decide) (by decide)]
          refine ⟨hqn, hqb, ?_⟩
          by_cases he : q % 2 = 0
          · rw [if_pos he]
            exact Or.inr ⟨by omega, rfl⟩
          · exact absurd (show 2 * (q / 2) ∈ S by rw [show 2 * (q / 2) = z by omega]; exact hzS) (hpk.1 he)
        · rw [hstat z e2 z1]
          exact ⟨z1, z2, z3⟩
      · rintro ⟨z1, z2, z3⟩
        have hin : z = q ∨ z ∈ S := by
          by_cases e2 : z / 2 = q / 2
          · rw [e2, er8] at z3
            by_cases he : q % 2 = 0
            · rw [if_pos he] at z3
              refine hz.mpr ⟨z1, ?_, Or.inl ?_⟩
              · rw [e2]; exact hqb
              · rw [e2]; exact hq119 he
            · rw [if_neg he] at z3
              omega
          · rw [hstat z e2 z1] at z2 z3
            exact hz.mpr ⟨z1, z2, z3⟩
        rcases hin with hin | hin
        · subst hin
          rw [er8] at z3
          by_cases he : z % 2 = 0
          · rw [if_pos he] at z3; omega
          · rw [if_neg he] at z3; omega
        · exact hin
    · rw [tset_o e]
      obtain ⟨t1, t2, t3⟩ := htr c hc
      refine ⟨t1, t2, fun z => ?_⟩
      rw [t3 z]
      by_cases e2 : z / 2 = q / 2
      · rw [e2, eri _ 10 (by decide) (by decide) (by decide), hqb]
        constructor
        · rintro ⟨-, z2, -⟩; omega
        · rintro ⟨-, z2, -⟩; omega
      · by_cases z1 : z / 2 < nr
        · rw [hstat z e2 z1]
        · exact ⟨fun z => absurd z.1 z1, fun z => absurd z.1 z1⟩
  · by_cases e : c = b
    · subst e
      rw [eb9, hs9, hmv, ob_one (a := a) (a2 := mk_T a c q) (b := c) (nr := nr) (r := q / 2) (d := if q % 2 = 0 then a (300 + q / 2) 4 else -a (300 + q / 2) 4) (fun k hk hkr => by rw [er k hkr hk]; exact ⟨Iff.rfl, rfl⟩) ?_ nr (Nat.le_refl _), if_pos hqn]
      rw [er8, eri _ 10 (by decide) (by decide) (by decide), eri _ 4 (by decide) (by decide) (by decide), hqb]
      by_cases he : q % 2 = 0
      · rw [if_pos he, if_pos ⟨rfl, rfl⟩, if_pos he, if_neg (fun z => by rw [hq119 he] at z; omega)]
        omega
      · rw [if_neg he, if_neg (fun z => by omega), if_neg he, if_pos ⟨hq114 he, rfl⟩]
        omega
    · rw [ebus c e hc, hob c hc]
      refine (ob_cg (fun k hk => ?_) nr (Nat.le_refl _)).symm
      by_cases e2 : k = q / 2
      · subst e2
        rw [eri _ 10 (by decide) (by decide) (by decide), eri _ 4 (by decide) (by decide) (by decide), hqb]
        exact ⟨⟨fun z => by omega, fun z => by omega⟩, rfl⟩
      · rw [er k e2 hk]
        exact ⟨Iff.rfl, rfl⟩
  · rw [mk_44, hjo.1]
    omega
  · rw [mk_5, mk_6, enz, (hbu b hb).1]
    by_cases e : k = ne
    · rw [if_pos e, if_pos e]
      omega
    · rw [if_neg e, if_neg e]
      exact hjo.2.1 k (by omega)
  · by_cases e : r = q / 2
    · subst e
      rw [er8]
      refine ⟨fun z => ?_, fun z => ⟨ne, by omega, by rw [mk_6, enz, if_pos rfl]⟩⟩
      split at z <;> omega
    · rw [er r e hr]
      obtain ⟨j1, j2⟩ := hjo.2.2.1 r hr
      refine ⟨fun z k hk => ?_, fun z => ?_⟩
      · rw [mk_6, enz]
        by_cases e2 : k = ne
        · rw [if_pos e2]; omega
        · rw [if_neg e2]; exact j1 z k (by omega)
      · obtain ⟨k, hk, hk2⟩ := j2 z
        exact ⟨k, by omega, by rw [mk_6, enz, if_neg (by omega)]; exact hk2⟩
  · have hjd : ∀ x : Int, jd_f (mk_T a b q) (vC (mk_T a b q)) x ne = jd_f a (vC a) x ne := fun x => jd_cg ne (fun i hi => by
      rw [mk_5, mk_6, mk_8, enz, if_neg (by omega), if_neg (by omega), if_neg (by omega)]
      exact ⟨rfl, rfl, rfl, eri _ 4 (by decide) (by decide) (by decide)⟩)
    obtain ⟨j1, j2⟩ := hjo.2.2.2 c hc
    rw [jd_f, hjd, mk_5, mk_8, enz, if_pos rfl, if_pos rfl, (hbu b hb).1]
    by_cases e : c = b
    · subst e
      have hv2 : vC (mk_T a c q) 2 (mk_T a c q 6 ne).toNat = a (300 + q / 2) 4 := by
        rw [mk_6, enz, if_pos rfl, Int.toNat_natCast]
        exact eri _ 4 (by decide) (by decide) (by decide)
      have hjf : jf_b (mk_T a c q 6) (mk_T a c q 6 ne) ne = true ↔ q % 2 = 0 := by
        rw [jf_iff]
        constructor
        · intro hz
          by_cases he : q % 2 = 0
          · exact he
          · obtain ⟨k, hk, hk2⟩ := (hjo.2.2.1 _ hqn).2 (hq114 he)
            have := hz k hk
            rw [mk_6, mk_6, enz, if_neg (by omega), if_pos rfl] at this
            exact absurd hk2 this
        · intro he k hk
          rw [mk_6, mk_6, enz, if_neg (by omega), if_pos rfl]
          exact (hjo.2.2.1 _ hqn).1 (hq119 he) k hk
      have e22 : (if jf_b (mk_T a c q 6) (mk_T a c q 6 ne) ne = true then vC (mk_T a c q) 2 (mk_T a c q 6 ne).toNat else -vC (mk_T a c q) 2 (mk_T a c q 6 ne).toNat) = pl_mv (vC a) q := by
        rw [hv2, hmv]
        by_cases he : q % 2 = 0
        · rw [if_pos he, if_pos (hjf.mpr he)]
        · rw [if_neg he, if_neg (fun z => he (hjf.mp z))]
      rw [if_pos rfl, e22, eb9, eb 11 (by decide), eb 10 (by decide), j2]
      dsimp only
      refine ⟨by rw [j1], ?_⟩
      rw [Int.sub_self]
      split <;> split <;> omega
    · rw [if_neg (by omega), ebus c e hc]
      exact ⟨j1, j2⟩
  · unfold fb
    rw [eb 6 (by decide), eb 7 (by decide), eb9, eb 1 (by decide), eb 3 (by decide), eb 4 (by decide), eb 8 (by decide)]
    refine fault_made hnd hx.1 hx.2 (fun p hp => ?_) hf
    have hpn : p / 2 < nr := ((hmem p).mp (List.mem_cons_of_mem _ hp)).1
    refine ⟨?_, ?_, eri _ 4 (by decide) (by decide) (by decide), eri _ 6 (by decide) (by decide) (by decide), eri _ 7 (by decide) (by decide) (by decide), ?_⟩
    · show pd_x (mk_T a b q) p = pd_x a p
      unfold pd_x
      rw [eri _ 0 (by decide) (by decide) (by decide), eri _ 2 (by decide) (by decide) (by decide)]
    · show pd_y (mk_T a b q) p = pd_y a p
      unfold pd_y
      rw [eri _ 1 (by decide) (by decide) (by decide), eri _ 3 (by decide) (by decide) (by decide)]
    · show mk_T a b q (300 + p / 2) 11 = if q % 2 = 0 ∧ p / 2 = q / 2 then a 0 6 else a (300 + p / 2) 11
      rw [mk_req11 (by omega)]
      by_cases he : p / 2 = q / 2 ∧ q % 2 = 0
      · rw [if_pos he, if_pos ⟨he.2, he.1⟩]
      · rw [if_neg he, if_neg (fun z => he ⟨z.2, z.1⟩)]
  · have hc2 : cg (vC a) (vC (mk_T a b q)) (fun r => r < nr ∧ r ≠ q / 2) := vC_cg (fun r hr i hi => by rw [er r hr.2 hr.1])
    have hz := hz.1
    unfold fb at hz ⊢
    rw [ebus c hcb hc, cg_fault hc2 (fun p hp => ⟨tr_R (htr c hc) p hp, fun e2 => ?_⟩)]
    · exact hz
    · have := ((htr c hc).2.2 p).mp hp
      rw [e2, hqb] at this
      omega
  · have hc2 : cg (vC a) (vC (mk_T a b q)) (fun r => r < nr ∧ r ≠ q / 2) := vC_cg (fun r hr i hi => by rw [er r hr.2 hr.1])
    have hz := hz.2.1
    unfold nu at hz ⊢
    rw [ebus c hcb hc, cg_du hc2 _ _ (fun p hp => ⟨tr_R (htr c hc) p hp, fun e2 => ?_⟩)]
    · exact hz
    · have := ((htr c hc).2.2 p).mp hp
      rw [e2, hqb] at this
      omega
end STOP
