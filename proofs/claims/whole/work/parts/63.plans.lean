/-! Plans given up early and all plans come to the same. -/
/-- no drop stands before its pickup -/
def pk : List Nat → Prop
  | [] => True
  | q :: S => (¬ q % 2 = 0 → ¬ 2 * (q / 2) ∈ S) ∧ pk S
theorem pk_iff : ∀ (S : List Nat), pk S ↔ ∀ i j, i < j → j < S.length → ¬ S.getD i 0 % 2 = 0 → S.getD j 0 ≠ 2 * (S.getD i 0 / 2)
  | [] => ⟨fun _ i j _ hj => absurd hj (Nat.not_lt_zero j), fun _ => trivial⟩
  | q :: S => by
    show ((¬ q % 2 = 0 → ¬ 2 * (q / 2) ∈ S) ∧ pk S) ↔ _
    rw [pk_iff S]
    constructor
    · rintro ⟨h1, h2⟩ i j hij hj ho e
      cases j with
      | zero => omega
      | succ j =>
        cases i with
        | zero =>
          have ho2 : ¬ q % 2 = 0 := by simpa using ho
          have e2 : S.getD j 0 = 2 * (q / 2) := by simpa using e
          exact h1 ho2 (e2 ▸ gd_mem (by simpa using hj))
        | succ i => exact h2 i j (by omega) (by simpa using hj) (by simpa using ho) (by simpa using e)
    · intro h
      refine ⟨fun ho hm => ?_, fun i j hij hj ho => ?_⟩
      · obtain ⟨k, hk, e⟩ := gd_of_mem (d := 0) hm
        exact h 0 (k + 1) (by omega) (by simpa using hk) (by simpa using ho) (by simpa using e)
      · have := h (i + 1) (j + 1) (by omega) (by simpa using hj) (by simpa using ho)
        simpa using this
theorem pk_ah {S : List Nat} (h : pk S) : pl_ah S S 0 = false := by
  rw [ah_iff]
  intro j hj ho hm
  have h1 := gd_idx (d := 0) hm
  by_cases hz : j < S.idxOf (2 * (S.getD j 0 / 2))
  · exact absurd h1.2 ((pk_iff S).mp h j _ hz h1.1 ho)
  · omega
theorem ah_pk {S : List Nat} (hS : nd_L S) (h : pl_ah S S 0 = false) : pk S := by
  rw [pk_iff]
  intro i j hij hj ho e
  have hm : 2 * (S.getD i 0 / 2) ∈ S := e ▸ gd_mem hj
  have h1 := (ah_iff S 0).mp h i (by omega) ho hm
  have h2 := gd_idx (d := 0) hm
  have := hS j _ hj h2.1 (e.trans h2.2.symm)
  omega
theorem nd_cons {x : Nat} {L : List Nat} (h : nd_L L) (hx : ¬ x ∈ L) : nd_L (x :: L) := by
  intro i j hi hj e
  cases i with
  | zero =>
    cases j with
    | zero => rfl
    | succ j =>
      have : x = L.getD j 0 := by simpa using e
      exact absurd (this ▸ gd_mem (by simpa using hj)) hx
  | succ i =>
    cases j with
    | zero =>
      have : L.getD i 0 = x := by simpa using e
      exact absurd (this ▸ gd_mem (by simpa using hi)) hx
    | succ j =>
      have := h i j (by simpa using hi) (by simpa using hj) (by simpa using e)
      omega
section LAY
variable {r i j : Nat}
theorem lay_no0 : ∀ (S : List Nat) (k : Nat) (_ : i < k) (_ : ¬ 2 * r ∈ S), ¬ 2 * r ∈ lay_f r i j S k
  | [], k, h, _ => by
    rw [lay_f, if_neg (by omega)]
    split
    · rw [List.nil_append, List.mem_singleton]; omega
    · simp
  | q :: S, k, h, hn => by
    have h1 := lay_no0 S (k + 1) (by omega) (fun z => hn (List.mem_cons_of_mem _ z))
    have h2 : ¬ 2 * r = q := fun z => hn (z ▸ List.mem_cons_self)
    rw [lay_f, if_neg (by omega)]
    intro hm
    rcases List.mem_append.mp hm with hm | hm
    · rcases List.mem_append.mp hm with hm | hm
      · cases hm
      · split at hm
        · have := List.mem_singleton.mp hm; omega
        · cases hm
    · rcases List.mem_cons.mp hm with hm | hm
      · exact h2 hm
      · exact h1 hm
theorem lay_no1 : ∀ (S : List Nat) (k : Nat) (_ : j < k) (_ : ¬ 2 * r + 1 ∈ S), ¬ 2 * r + 1 ∈ lay_f r i j S k
  | [], k, h, _ => by
    rw [lay_f, if_neg (show ¬ k = j by omega)]
    split
    · rw [List.append_nil, List.mem_singleton]; omega
    · simp
  | q :: S, k, h, hn => by
    have h1 := lay_no1 S (k + 1) (by omega) (fun z => hn (List.mem_cons_of_mem _ z))
    have h2 : ¬ 2 * r + 1 = q := fun z => hn (z ▸ List.mem_cons_self)
    rw [lay_f, if_neg (show ¬ k = j by omega)]
    intro hm
    rcases List.mem_append.mp hm with hm | hm
    · rcases List.mem_append.mp hm with hm | hm
      · split at hm
        · have := List.mem_singleton.mp hm; omega
        · cases hm
      · cases hm
    · rcases List.mem_cons.mp hm with hm | hm
      · exact h2 hm
      · exact h1 hm
theorem lay_pk (hij : i ≤ j) : ∀ (S : List Nat) (k : Nat) (_ : pk S) (_ : ¬ 2 * r ∈ S) (_ : ¬ 2 * r + 1 ∈ S), pk (lay_f r i j S k)
  | [], k, _, _, _ => by
    rw [lay_f]
    split <;> split
    · exact ⟨fun z => absurd (show 2 * r % 2 = 0 by omega) z, fun _ h => (nomatch h), trivial⟩
    · exact ⟨fun _ h => (nomatch h), trivial⟩
    · exact ⟨fun _ h => (nomatch h), trivial⟩
    · trivial
  | q :: S, k, hp, h0, h1 => by
    have h0' : ¬ 2 * r ∈ S := fun z => h0 (List.mem_cons_of_mem _ z)
    have h1' : ¬ 2 * r + 1 ∈ S := fun z => h1 (List.mem_cons_of_mem _ z)
    have hq0 : ¬ q = 2 * r := fun z => h0 (z ▸ List.mem_cons_self)
    have hq1 : ¬ q = 2 * r + 1 := fun z => h1 (z ▸ List.mem_cons_self)
    have ih := lay_pk hij S (k + 1) hp.2 h0' h1'
    have hq : pk (q :: lay_f r i j S (k + 1)) := ⟨fun ho hm => by
      rcases lay_mem S (k + 1) _ hm with h | h | h
      · omega
      · omega
      · exact hp.1 ho h, ih⟩
    have hB : pk ((if k = j then [2 * r + 1] else []) ++ q :: lay_f r i j S (k + 1)) := by
      split
      · rename_i hk
        refine ⟨fun _ hm => ?_, hq⟩
        rw [show 2 * ((2 * r + 1) / 2) = 2 * r by omega] at hm
        rcases List.mem_cons.mp hm with h | h
        · exact hq0 h.symm
        · exact lay_no0 S (k + 1) (by omega) h0' h
      · exact hq
    rw [lay_f, List.append_assoc]
    split
    · exact ⟨fun z => absurd (show 2 * r % 2 = 0 by omega) z, hB⟩
    · exact hB
theorem lay_nd (hij : i ≤ j) : ∀ (S : List Nat) (k : Nat) (_ : nd_L S) (_ : ¬ 2 * r ∈ S) (_ : ¬ 2 * r + 1 ∈ S), nd_L (lay_f r i j S k)
  | [], k, _, _, _ => by
    rw [lay_f]
    have hn : nd_L ([] : List Nat) := fun i j hi => absurd hi (Nat.not_lt_zero i)
    split <;> split
    · exact nd_cons (nd_cons hn (by simp)) (by simp)
    · exact nd_cons hn (by simp)
    · exact nd_cons hn (by simp)
    · exact hn
  | q :: S, k, hp, h0, h1 => by
    have h0' : ¬ 2 * r ∈ S := fun z => h0 (List.mem_cons_of_mem _ z)
    have h1' : ¬ 2 * r + 1 ∈ S := fun z => h1 (List.mem_cons_of_mem _ z)
    have hq0 : ¬ q = 2 * r := fun z => h0 (z ▸ List.mem_cons_self)
    have hq1 : ¬ q = 2 * r + 1 := fun z => h1 (z ▸ List.mem_cons_self)
    obtain ⟨hS, hqS⟩ := nd_tail hp
    have hq : nd_L (q :: lay_f r i j S (k + 1)) := nd_cons (lay_nd hij S (k + 1) hS h0' h1') (fun hm => by
      rcases lay_mem S (k + 1) _ hm with h | h | h
      · exact hq0 h
      · exact hq1 h
      · exact hqS h)
    have hB : nd_L ((if k = j then [2 * r + 1] else []) ++ q :: lay_f r i j S (k + 1)) := by
      split
      · rename_i hk
        refine nd_cons hq (fun hm => ?_)
        rcases List.mem_cons.mp hm with h | h
        · exact hq1 h.symm
        · exact lay_no1 S (k + 1) (by omega) h1' h
      · exact hq
    rw [lay_f, List.append_assoc]
    split
    · rename_i hk
      refine nd_cons (L := (if k = j then [2 * r + 1] else []) ++ q :: lay_f r i j S (k + 1)) hB (fun hm => ?_)
      rcases List.mem_append.mp hm with h | h
      · split at h
        · have := List.mem_singleton.mp h; omega
        · cases h
      · rcases List.mem_cons.mp h with h | h
        · exact hq0 h.symm
        · exact lay_no0 S (k + 1) (by omega) h0' h
    · exact hB
theorem lay_in : ∀ (S : List Nat) (k q : Nat) (_ : q ∈ S), q ∈ lay_f r i j S k
  | p :: S, k, q, h => by
    rw [lay_f]
    refine List.mem_append.mpr (Or.inr ?_)
    rcases List.mem_cons.mp h with h | h
    · exact h ▸ List.mem_cons_self
    · exact List.mem_cons_of_mem _ (lay_in S (k + 1) q h)
theorem lay_r0 : ∀ (S : List Nat) (k : Nat) (_ : k ≤ i) (_ : i ≤ k + S.length), 2 * r ∈ lay_f r i j S k
  | [], k, h1, h2 => by
    rw [lay_f, if_pos (by simp at h2; omega)]
    exact List.mem_append.mpr (Or.inl List.mem_cons_self)
  | q :: S, k, h1, h2 => by
    rw [lay_f]
    by_cases hk : k = i
    · rw [if_pos hk, List.append_assoc]
      exact List.mem_append.mpr (Or.inl List.mem_cons_self)
    · refine List.mem_append.mpr (Or.inr (List.mem_cons_of_mem _ (lay_r0 S (k + 1) (by omega) (by simp at h2; omega))))
theorem lay_r1 : ∀ (S : List Nat) (k : Nat) (_ : k ≤ j) (_ : j ≤ k + S.length), 2 * r + 1 ∈ lay_f r i j S k
  | [], k, h1, h2 => by
    rw [lay_f, if_pos (show k = j by simp at h2; omega)]
    exact List.mem_append.mpr (Or.inr List.mem_cons_self)
  | q :: S, k, h1, h2 => by
    rw [lay_f]
    by_cases hk : k = j
    · rw [if_pos hk]
      exact List.mem_append.mpr (Or.inl (List.mem_append.mpr (Or.inr List.mem_cons_self)))
    · refine List.mem_append.mpr (Or.inr (List.mem_cons_of_mem _ (lay_r1 S (k + 1) (by omega) (by simp at h2; omega))))
end LAY
section PE
variable {v : Nat → Nat → Int} {β : Nat → Int} {S : List Nat} {r nr : Nat} {now : Int}
/-- the two searches stand alike -/
def pq (s : pe_S) (t : pa_S) : Prop := s.1 = t.1 ∧ s.2.1 = t.2.1 ∧ s.2.2.1 = t.2.2.1 ∧ s.2.2.2 = t.2.2.2.1 ∧ (0 ≤ s.1 ∨ s.2.2.2 = 1000000)
/-- what a bus's plans need -/
def pn (v : Nat → Nat → Int) (β : Nat → Int) (S : List Nat) (r nr : Nat) : Prop :=
  (∀ q, q / 2 ≤ nr → (0 ≤ v 0 q ∧ v 0 q ≤ 20) ∧ 0 ≤ v 1 q ∧ v 1 q ≤ 20) ∧ (∀ r, r ≤ nr → 0 ≤ v 2 r) ∧ r ≤ nr ∧ (∀ j, j < S.length → S.getD j 0 / 2 ≤ nr) ∧ pk S ∧ ¬ 2 * r ∈ S ∧ ¬ 2 * r + 1 ∈ S ∧ β 9 ≤ β 1 ∧ (0 ≤ β 3 ∧ β 3 ≤ 20) ∧ (0 ≤ β 4 ∧ β 4 ≤ 20) ∧ (0 ≤ β 6 ∧ β 6 ≤ 20) ∧ 0 ≤ β 7 ∧ β 7 ≤ 20
theorem pq_in (h : pn v β S r nr) {b i j : Nat} (hij : i ≤ j) (hj : j ≤ S.length) {s : pe_S} {t : pa_S} (hs : pq s t) : pq (pe_in v β S r now b i j s) (pa_in v β S r now b i j t) := by
  obtain ⟨hv, hv2, hr, hq, hpk, h0, h1, hn, b3, b4, b6, b7⟩ := h
  obtain ⟨s1, s2, s3, s4, s5⟩ := hs
  have hLq := lay_ok (i := i) (j := j) hr hq
  have hLn := lay_length (r := r) hij hj 0 (Nat.le_refl _)
  have hLb := len_b b3 b4 hv (lay_f r i j S 0) (β 6) (β 7) hLq b6 b7
  have hSb := len_b b3 b4 hv S (β 6) (β 7) hq b6 b7
  have hne : lay_f r i j S 0 ≠ [] := fun z => by rw [z] at hLn; simp at hLn
  have hah := pk_ah (lay_pk hij S 0 hpk h0 h1)
  have hfl : ¬ (lay_f r i j S 0).length ≤ 6 → ¬ pl_fault v (lay_f r i j S 0) (β 6) (β 7) now (β 9) (β 1) (β 3) (β 4) (β 8) = 0 := fun z z2 => z (fault_c.mp z2).1
  have hwk : (lay_f r i j S 0).length ≤ 6 → ((wk_f v (lay_f r i j S 0) (β 1) (β 8) (if 0 ≤ s.1 then pl_len v (β 3) (β 4) S (β 6) (β 7) + s.2.2.2 else 1000000) (β 3) (β 4) now (lay_f r i j S 0) 0 (β 6) (β 7) 0 (β 9) []).1 = -1 ↔ pl_fault v (lay_f r i j S 0) (β 6) (β 7) now (β 9) (β 1) (β 3) (β 4) (β 8) = 0 ∧ pl_len v (β 3) (β 4) (lay_f r i j S 0) (β 6) (β 7) - pl_len v (β 3) (β 4) S (β 6) (β 7) < t.2.2.2.1) := fun h6 => by
    rw [wk_all hne h6 hn (fun q hqm => by
      obtain ⟨k, hk, e⟩ := gd_of_mem (d := 0) hqm
      exact hv2 _ (by rw [← e]; exact hLq k hk))]
    have hlen : pl_len v (β 3) (β 4) (lay_f r i j S 0) (β 6) (β 7) < (if 0 ≤ s.1 then pl_len v (β 3) (β 4) S (β 6) (β 7) + s.2.2.2 else 1000000) ↔ pl_len v (β 3) (β 4) (lay_f r i j S 0) (β 6) (β 7) - pl_len v (β 3) (β 4) S (β 6) (β 7) < t.2.2.2.1 := by
      split
      · omega
      · rcases s5 with s5 | s5
        · omega
        · omega
    rw [hlen]
    exact ⟨fun h => ⟨h.2.2, h.1⟩, fun h => ⟨h.2, hah, h.1⟩⟩
  unfold pe_in pa_in
  by_cases h6 : (lay_f r i j S 0).length ≤ 6
  · by_cases hc : pl_fault v (lay_f r i j S 0) (β 6) (β 7) now (β 9) (β 1) (β 3) (β 4) (β 8) = 0 ∧ pl_len v (β 3) (β 4) (lay_f r i j S 0) (β 6) (β 7) - pl_len v (β 3) (β 4) S (β 6) (β 7) < t.2.2.2.1
    · have hw := (hwk h6).mpr hc
      rw [if_pos ⟨h6, hw⟩, if_pos hc, wk_val _ _ _ _ _ _ _ hw, Int.zero_add]
      exact ⟨rfl, rfl, rfl, rfl, Or.inl (by show (0 : Int) ≤ (b : Int); omega)⟩
    · rw [if_neg (fun z => hc ((hwk h6).mp z.2)), if_neg hc]
      exact ⟨s1, s2, s3, s4, s5⟩
  · rw [if_neg (fun z => h6 z.1), if_neg (fun z => hfl h6 z.1)]
    exact ⟨s1, s2, s3, s4, s5⟩
theorem pq_j (h : pn v β S r nr) {b i : Nat} (hi : i ≤ S.length) {s : pe_S} {t : pa_S} (hs : pq s t) : ∀ d, d ≤ S.length + 1 - i → pq (pe_j v β S r now b i d s) (pa_j v β S r now b i d t)
  | 0, _ => hs
  | d + 1, hd => pq_in h (by omega) (by omega) (pq_j h hi hs d (by omega))
theorem pq_i (h : pn v β S r nr) {b : Nat} {s : pe_S} {t : pa_S} (hs : pq s t) : ∀ i, i ≤ S.length + 1 → pq (pe_i v β S r now b i s) (pa_i v β S r now b i t)
  | 0, _ => hs
  | i + 1, hi => pq_j h (by omega) (pq_i h hs i (by omega)) _ (Nat.le_refl _)
theorem pq_b {B : Nat → Nat → Int} {TS : Nat → List Nat} : ∀ (nb : Nat) (_ : ∀ b, b < nb → pn v (B b) (TS b) r nr) {s : pe_S} {t : pa_S} (_ : pq s t), pq (pe_b v B TS r now nb s) (pa_b v B TS r now nb t)
  | 0, _, _, _, hs => hs
  | b + 1, h, _, _, hs => pq_i (h b (Nat.lt_succ_self _)) (pq_b b (fun c hc => h c (Nat.lt_succ_of_lt hc)) hs) _ (Nat.le_refl _)
theorem pq_0 (c4 c5 : Int) : pq (-1, c4, c5, 1000000) (-1, c4, c5, 1000000, 1) := ⟨rfl, rfl, rfl, rfl, Or.inr rfl⟩
/-- where the search began does not matter -/
def pz (s t : pa_S) : Prop := s.1 = t.1 ∧ s.2.2.2.1 = t.2.2.2.1 ∧ s.2.2.2.2 = t.2.2.2.2 ∧ (0 ≤ s.1 → s = t)
theorem pz_in {b i j : Nat} {s t : pa_S} (hs : pz s t) : pz (pa_in v β S r now b i j s) (pa_in v β S r now b i j t) := by
  obtain ⟨s1, s2, s3, s4⟩ := hs
  unfold pa_in
  rw [s2, s3]
  split
  · exact ⟨rfl, rfl, rfl, fun _ => rfl⟩
  · refine ⟨s1, rfl, rfl, fun h => ?_⟩
    have h2 := s4 h
    show (s.1, s.2.1, s.2.2.1, t.2.2.2.1, _) = (t.1, t.2.1, t.2.2.1, t.2.2.2.1, _)
    rw [h2]
theorem pz_j {b i : Nat} {s t : pa_S} (hs : pz s t) : ∀ d, pz (pa_j v β S r now b i d s) (pa_j v β S r now b i d t)
  | 0 => hs
  | d + 1 => pz_in (pz_j hs d)
theorem pz_i {b : Nat} {s t : pa_S} (hs : pz s t) : ∀ i, pz (pa_i v β S r now b i s) (pa_i v β S r now b i t)
  | 0 => hs
  | i + 1 => pz_j (pz_i hs i) _
theorem pz_b {B : Nat → Nat → Int} {TS : Nat → List Nat} {s t : pa_S} (hs : pz s t) : ∀ nb, pz (pa_b v B TS r now nb s) (pa_b v B TS r now nb t)
  | 0 => hs
  | b + 1 => pz_i (pz_b hs b) _
theorem pz_0 (c4 c5 d4 d5 : Int) : pz (-1, c4, c5, 1000000, 1) (-1, d4, d5, 1000000, 1) := ⟨rfl, rfl, rfl, fun h => absurd h (show ¬ (0 : Int) ≤ -1 by decide)⟩
end PE
