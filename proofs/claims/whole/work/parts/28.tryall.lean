/-! Choice: all plans tried. -/
/-- the world of buses and requests, as the class keeps it -/
def wd_C (f : Nat → Nat → Int) (w : Nat × Nat × Int64 × UInt64) (v : Nat → Nat → Int) (TS : Nat → List Nat) : Prop :=
  w.2.1 ≤ 30 ∧ w.1 ≤ 4 ∧ pe_C f v w.2.1 ∧ (∀ b, b < w.1 → pb_B f (200 + b)) ∧ (∀ b, b < w.1 → ts_I f (200 + b + 10) (TS b)) ∧ ∀ b, b < w.1 → (TS b).length ≤ 6 ∧ ∀ j, j < (TS b).length → (TS b).getD j 0 / 2 ≤ w.2.1
theorem wd_same {f g v : Nat → Nat → Int} {w : Nat × Nat × Int64 × UInt64} {TS : Nat → List Nat} (h : wd_C f w v TS) (hs : ∀ o, 200 ≤ o → g o = f o) : wd_C g w v TS := by
  obtain ⟨h1, h2, h3, h4, h5, h6⟩ := h
  exact ⟨h1, h2, pe_same h3 (fun o ho => hs o (by omega)), fun b hb => by unfold pb_B; rw [hs _ (by omega)]; exact h4 b hb, fun b hb => ts_same (h5 b hb) (hs _ (by omega)) (hs _ (by omega)), h6⟩
theorem lay_mem {r i j : Nat} : ∀ (S : List Nat) (k q : Nat), q ∈ lay_f r i j S k → q = 2 * r ∨ q = 2 * r + 1 ∨ q ∈ S
  | [], k, q, h => by
    simp only [lay_f, List.mem_append] at h
    rcases h with h | h
    · split at h
      · exact Or.inl (List.mem_singleton.mp h)
      · cases h
    · split at h
      · exact Or.inr (Or.inl (List.mem_singleton.mp h))
      · cases h
  | p :: S, k, q, h => by
    simp only [lay_f, List.mem_append, List.mem_cons] at h
    rcases h with (h | h) | h | h
    · split at h
      · exact Or.inl (List.mem_singleton.mp h)
      · cases h
    · split at h
      · exact Or.inr (Or.inl (List.mem_singleton.mp h))
      · cases h
    · exact Or.inr (Or.inr (List.mem_cons.mpr (Or.inl h)))
    · rcases lay_mem S (k + 1) q h with h | h | h
      · exact Or.inl h
      · exact Or.inr (Or.inl h)
      · exact Or.inr (Or.inr (List.mem_cons_of_mem _ h))
theorem lay_ok {r i j nr : Nat} {S : List Nat} (hr : r ≤ nr) (h : ∀ j, j < S.length → S.getD j 0 / 2 ≤ nr) : ∀ k, k < (lay_f r i j S 0).length → (lay_f r i j S 0).getD k 0 / 2 ≤ nr := by
  intro k hk
  rcases lay_mem S 0 _ (gd_mem (d := 0) hk) with q | q | q
  · rw [q]; omega
  · rw [q]; omega
  · obtain ⟨m, hm, h2⟩ := gd_of_mem (d := 0) q
    rw [← h2]
    exact h m hm
theorem lay_length {r i j : Nat} : ∀ {S : List Nat}, i ≤ j → j ≤ S.length → ∀ k, k ≤ 0 → (lay_f r i j S k).length = S.length + 2 := by
  intro S hij hj k hk
  have hg : ∀ (S : List Nat) (k : Nat), (lay_f r i j S k).length = S.length + (if k ≤ i ∧ i ≤ k + S.length then 1 else 0) + (if k ≤ j ∧ j ≤ k + S.length then 1 else 0) := by
    intro S
    induction S with
    | nil =>
      intro k
      simp only [lay_f, List.length_append, List.length_nil]
      repeat' split
      all_goals simp only [List.length_cons, List.length_nil]
      all_goals omega
    | cons q S ih =>
      intro k
      simp only [lay_f, List.length_append, List.length_cons, ih (k + 1)]
      repeat' split
      all_goals simp only [List.length_cons, List.length_nil]
      all_goals omega
  rw [hg, if_pos (by omega), if_pos (by omega)]
/-- what is kept of the plans tried: bus, i, j, what it adds, the last fault -/
abbrev pa_S : Type := Int × Int × Int × Int × Int
def pa_in (v : Nat → Nat → Int) (β : Nat → Int) (S : List Nat) (r : Nat) (now : Int) (b i j : Nat) (s : pa_S) : pa_S :=
  if pl_fault v (lay_f r i j S 0) (β 6) (β 7) now (β 9) (β 1) (β 3) (β 4) (β 8) = 0 ∧ pl_len v (β 3) (β 4) (lay_f r i j S 0) (β 6) (β 7) - pl_len v (β 3) (β 4) S (β 6) (β 7) < s.2.2.2.1
  then ((b : Int), (i : Int), (j : Int), pl_len v (β 3) (β 4) (lay_f r i j S 0) (β 6) (β 7) - pl_len v (β 3) (β 4) S (β 6) (β 7), max s.2.2.2.2 (pl_fault v (lay_f r i j S 0) (β 6) (β 7) now (β 9) (β 1) (β 3) (β 4) (β 8)))
  else (s.1, s.2.1, s.2.2.1, s.2.2.2.1, max s.2.2.2.2 (pl_fault v (lay_f r i j S 0) (β 6) (β 7) now (β 9) (β 1) (β 3) (β 4) (β 8)))
def pa_j (v : Nat → Nat → Int) (β : Nat → Int) (S : List Nat) (r : Nat) (now : Int) (b i : Nat) : Nat → pa_S → pa_S
  | 0, s => s
  | d + 1, s => pa_in v β S r now b i (i + d) (pa_j v β S r now b i d s)
def pa_i (v : Nat → Nat → Int) (β : Nat → Int) (S : List Nat) (r : Nat) (now : Int) (b : Nat) : Nat → pa_S → pa_S
  | 0, s => s
  | i + 1, s => pa_j v β S r now b i (S.length + 1 - i) (pa_i v β S r now b i s)
def pa_b (v : Nat → Nat → Int) (B : Nat → Nat → Int) (TS : Nat → List Nat) (r : Nat) (now : Int) : Nat → pa_S → pa_S
  | 0, s => s
  | b + 1, s => pa_i v (B b) (TS b) r now b ((TS b).length + 1) (pa_b v B TS r now b s)
def pa_at (g : Nat → Nat → Int) (s : pa_S) : Prop := g 13 3 = s.1 ∧ g 13 4 = s.2.1 ∧ g 13 5 = s.2.2.1 ∧ g 13 6 = s.2.2.2.1 ∧ g 13 7 = s.2.2.2.2
def pa_bd (g : Nat → Nat → Int) : Prop := (-10 ≤ g 13 3 ∧ g 13 3 ≤ 10) ∧ (-2000 ≤ g 13 6 ∧ g 13 6 ≤ 1000000) ∧ (1 ≤ g 13 7 ∧ g 13 7 ≤ 4)
theorem pa_at0 (f : Nat → Nat → Int) : pa_at (ii_up (ii_up (ii_up f 13 3 (-1)) 13 6 1000000) 13 7 1) (-1, f 13 4, f 13 5, 1000000, 1) := by
  simp [pa_at, ii_up]
theorem pa_bd0 (f : Nat → Nat → Int) : pa_bd (ii_up (ii_up (ii_up f 13 3 (-1)) 13 6 1000000) 13 7 1) := by
  simp [pa_bd, ii_up]
section PA
variable {v : Nat → Nat → Int} {β : Nat → Int} {S : List Nat} {r b i j : Nat} {now : Int} {s : pa_S} {g g3 g4 g5 : Nat → Nat → Int}
theorem pa_no (hst : pa_at g s) (hc : ¬ (pl_fault v (lay_f r i j S 0) (β 6) (β 7) now (β 9) (β 1) (β 3) (β 4) (β 8) = 0 ∧ pl_len v (β 3) (β 4) (lay_f r i j S 0) (β 6) (β 7) - pl_len v (β 3) (β 4) S (β 6) (β 7) < g 13 6))
    (e4 : g4 = ii_up g3 13 7 (max (g 13 7) (pl_fault v (lay_f r i j S 0) (β 6) (β 7) now (β 9) (β 1) (β 3) (β 4) (β 8)))) (h13 : g3 13 = g 13) : pa_at g4 (pa_in v β S r now b i j s) := by
  obtain ⟨q3, q4, q5, q6, q7⟩ := hst
  unfold pa_in
  rw [← q6, if_neg hc]
  subst e4
  refine ⟨?_, ?_, ?_, ?_, ?_⟩
  · rw [ii_up_k _ _ (by decide), h13]; exact q3
  · rw [ii_up_k _ _ (by decide), h13]; exact q4
  · rw [ii_up_k _ _ (by decide), h13]; exact q5
  · rw [ii_up_k _ _ (by decide), h13]
  · rw [ii_up_s, ← q7]
theorem pa_yes (hst : pa_at g s) (hF : pl_fault v (lay_f r i j S 0) (β 6) (β 7) now (β 9) (β 1) (β 3) (β 4) (β 8) = 0) (hA : pl_len v (β 3) (β 4) (lay_f r i j S 0) (β 6) (β 7) - pl_len v (β 3) (β 4) S (β 6) (β 7) < g 13 6)
    (e4 : g4 = ii_up g3 13 7 (max (g 13 7) (pl_fault v (lay_f r i j S 0) (β 6) (β 7) now (β 9) (β 1) (β 3) (β 4) (β 8)))) (h13 : g3 13 = g 13)
    (e5 : g5 = ii_up (ii_up (ii_up (ii_up g4 13 3 (b : Int)) 13 4 (i : Int)) 13 5 (j : Int)) 13 6 (pl_len v (β 3) (β 4) (lay_f r i j S 0) (β 6) (β 7) - pl_len v (β 3) (β 4) S (β 6) (β 7))) : pa_at g5 (pa_in v β S r now b i j s) := by
  obtain ⟨q3, q4, q5, q6, q7⟩ := hst
  unfold pa_in
  rw [← q6, if_pos ⟨hF, hA⟩]
  subst e5
  subst e4
  refine ⟨?_, ?_, ?_, ?_, ?_⟩
  · rw [ii_up_k _ _ (by decide), ii_up_k _ _ (by decide), ii_up_k _ _ (by decide), ii_up_s]
  · rw [ii_up_k _ _ (by decide), ii_up_k _ _ (by decide), ii_up_s]
  · rw [ii_up_k _ _ (by decide), ii_up_s]
  · rw [ii_up_s]
  · rw [ii_up_k _ _ (by decide), ii_up_k _ _ (by decide), ii_up_k _ _ (by decide), ii_up_k _ _ (by decide), ii_up_s, ← q7]
theorem pa_b2 (hst : pa_at g s) (hbd : pa_bd g) (hb : b ≤ 10) (hF : 0 ≤ pl_fault v (lay_f r i j S 0) (β 6) (β 7) now (β 9) (β 1) (β 3) (β 4) (β 8) ∧ pl_fault v (lay_f r i j S 0) (β 6) (β 7) now (β 9) (β 1) (β 3) (β 4) (β 8) ≤ 4)
    (hA : -2000 ≤ pl_len v (β 3) (β 4) (lay_f r i j S 0) (β 6) (β 7) - pl_len v (β 3) (β 4) S (β 6) (β 7) ∧ pl_len v (β 3) (β 4) (lay_f r i j S 0) (β 6) (β 7) - pl_len v (β 3) (β 4) S (β 6) (β 7) ≤ 2000) (h : pa_at g5 (pa_in v β S r now b i j s)) : pa_bd g5 := by
  obtain ⟨q3, q4, q5, q6, q7⟩ := hst
  obtain ⟨r3, r6, r7⟩ := hbd
  obtain ⟨p3, p4, p5, p6, p7⟩ := h
  unfold pa_in at p3 p6 p7
  unfold pa_bd
  rw [p3, p6, p7]
  split
  · refine ⟨by dsimp only; omega, by dsimp only; omega, by dsimp only; omega⟩
  · refine ⟨by dsimp only; omega, by dsimp only; omega, by dsimp only; omega⟩
end PA
theorem pl_fault_b (v : Nat → Nat → Int) (S : List Nat) (x y now onb cap dx dy chg : Int) : 0 ≤ pl_fault v S x y now onb cap dx dy chg ∧ pl_fault v S x y now onb cap dx dy chg ≤ 4 := by
  unfold pl_fault
  repeat' split
  all_goals omega
/-! plans given up early -/
abbrev pe_S : Type := Int × Int × Int × Int
def pe_in (v : Nat → Nat → Int) (β : Nat → Int) (S : List Nat) (r : Nat) (now : Int) (b i j : Nat) (s : pe_S) : pe_S :=
  if (lay_f r i j S 0).length ≤ 6 ∧ (wk_f v (lay_f r i j S 0) (β 1) (β 8) (if 0 ≤ s.1 then pl_len v (β 3) (β 4) S (β 6) (β 7) + s.2.2.2 else 1000000) (β 3) (β 4) now (lay_f r i j S 0) 0 (β 6) (β 7) 0 (β 9) []).1 = -1
  then ((b : Int), (i : Int), (j : Int), (wk_f v (lay_f r i j S 0) (β 1) (β 8) (if 0 ≤ s.1 then pl_len v (β 3) (β 4) S (β 6) (β 7) + s.2.2.2 else 1000000) (β 3) (β 4) now (lay_f r i j S 0) 0 (β 6) (β 7) 0 (β 9) []).2 - pl_len v (β 3) (β 4) S (β 6) (β 7))
  else s
def pe_j (v : Nat → Nat → Int) (β : Nat → Int) (S : List Nat) (r : Nat) (now : Int) (b i : Nat) : Nat → pe_S → pe_S
  | 0, s => s
  | d + 1, s => pe_in v β S r now b i (i + d) (pe_j v β S r now b i d s)
def pe_i (v : Nat → Nat → Int) (β : Nat → Int) (S : List Nat) (r : Nat) (now : Int) (b : Nat) : Nat → pe_S → pe_S
  | 0, s => s
  | i + 1, s => pe_j v β S r now b i (S.length + 1 - i) (pe_i v β S r now b i s)
def pe_b (v : Nat → Nat → Int) (B : Nat → Nat → Int) (TS : Nat → List Nat) (r : Nat) (now : Int) : Nat → pe_S → pe_S
  | 0, s => s
  | b + 1, s => pe_i v (B b) (TS b) r now b ((TS b).length + 1) (pe_b v B TS r now b s)
def pe_at (g : Nat → Nat → Int) (s : pe_S) : Prop := g 13 3 = s.1 ∧ g 13 4 = s.2.1 ∧ g 13 5 = s.2.2.1 ∧ g 13 6 = s.2.2.2
def pe_bd (g : Nat → Nat → Int) : Prop := (-10 ≤ g 13 3 ∧ g 13 3 ≤ 10) ∧ (-2000 ≤ g 13 6 ∧ g 13 6 ≤ 1000000)
theorem ls_pr (S : List Nat) : ∀ k, k < S.length → S.getD k 0 % 2 ≠ 0 → S.idxOf (2 * (S.getD k 0 / 2)) ≠ k := by
  intro k hk h1 h2
  have hm : 2 * (S.getD k 0 / 2) ∈ S := List.idxOf_lt_length_iff.mp (by rw [h2]; exact hk)
  have h3 := (gd_idx (d := 0) hm).2
  rw [h2] at h3
  omega
theorem wk_rng (v : Nat → Nat → Int) (S0 : List Nat) (cap chg bound dx dy now : Int) : ∀ (S : List Nat) (k : Nat) (x y a n : Int) (T : List Int), (wk_f v S0 cap chg bound dx dy now S k x y a n T).1 = -1 ∨ ∃ j : Nat, (wk_f v S0 cap chg bound dx dy now S k x y a n T).1 = (j : Int) ∧ k ≤ j ∧ j < k + S.length
  | [], k, x, y, a, n, T => Or.inl rfl
  | q :: S, k, x, y, a, n, T => by
    rw [wk_f]
    split
    · exact Or.inr ⟨k, rfl, Nat.le_refl _, by simp⟩
    · rcases wk_rng v S0 cap chg bound dx dy now S (k + 1) (v 0 q) (v 1 q) (a + pd_d x y (v 0 q) (v 1 q)) (n + pl_mv v q) (T ++ [now + (a + pd_d x y (v 0 q) (v 1 q))]) with h | ⟨j, h1, h2, h3⟩
      · exact Or.inl h
      · exact Or.inr ⟨j, h1, by omega, by simp; omega⟩
theorem wk_b {v : Nat → Nat → Int} {nr : Nat} {dx dy : Int} (hdx : 0 ≤ dx ∧ dx ≤ 20) (hdy : 0 ≤ dy ∧ dy ≤ 20) (hv : ∀ q, q / 2 ≤ nr → (0 ≤ v 0 q ∧ v 0 q ≤ 20) ∧ 0 ≤ v 1 q ∧ v 1 q ≤ 20) (S0 : List Nat) (cap chg bound now : Int) : ∀ (S : List Nat) (k : Nat) (x y a n : Int) (T : List Int), (∀ j, j < S.length → S.getD j 0 / 2 ≤ nr) → 0 ≤ x ∧ x ≤ 20 → 0 ≤ y ∧ y ≤ 20 → 0 ≤ a → 0 ≤ (wk_f v S0 cap chg bound dx dy now S k x y a n T).2 ∧ (wk_f v S0 cap chg bound dx dy now S k x y a n T).2 ≤ a + 40 + 40 * (S.length : Int)
  | [], k, x, y, a, n, T, hq, hx, hy, ha => by
    have hd := pd_b hx hy hdx hdy
    simp only [wk_f, List.length_nil]
    omega
  | q :: S, k, x, y, a, n, T, hq, hx, hy, ha => by
    have qv := hv q (hq 0 (Nat.zero_lt_succ _))
    have hd := pd_b hx hy qv.1 qv.2
    have hd2 := pd_b qv.1 qv.2 hdx hdy
    have ih := wk_b hdx hdy hv S0 cap chg bound now S (k + 1) (v 0 q) (v 1 q) (a + pd_d x y (v 0 q) (v 1 q)) (n + pl_mv v q) (T ++ [now + (a + pd_d x y (v 0 q) (v 1 q))]) (fun j hj => hq (j + 1) (Nat.succ_lt_succ hj)) qv.1 qv.2 (by omega)
    rw [wk_f]
    simp only [List.length_cons]
    split
    · dsimp only
      omega
    · omega
theorem wk_out {v : Nat → Nat → Int} {S0 : List Nat} {cap chg bound dx dy now x y a n : Int} {T : List Int} {g : Nat → Nat → Int} {o : Option Value} (h1 : 6 < S0.length → o = some (ii_v 0)) (h2 : S0.length ≤ 6 → o = some (ii_v (wk_f v S0 cap chg bound dx dy now S0 0 x y a n T).1) ∧ g 11 6 = (wk_f v S0 cap chg bound dx dy now S0 0 x y a n T).2) :
    ∃ rv : Int, o = some (ii_v rv) ∧ ii_B rv ∧ (rv = -1 ↔ S0.length ≤ 6 ∧ (wk_f v S0 cap chg bound dx dy now S0 0 x y a n T).1 = -1) ∧ (S0.length ≤ 6 → g 11 6 = (wk_f v S0 cap chg bound dx dy now S0 0 x y a n T).2) := by
  rcases Nat.lt_or_ge 6 S0.length with q | q
  · exact ⟨0, h1 q, ii_B0, ⟨fun h => by omega, fun h => by omega⟩, fun h => by omega⟩
  · refine ⟨_, (h2 q).1, ?_, ⟨fun h => ⟨q, h⟩, fun h => h.2⟩, fun _ => (h2 q).2⟩
    rcases wk_rng v S0 cap chg bound dx dy now S0 0 x y a n T with h | ⟨j, h, -, h3⟩
    · rw [h]; unfold ii_B; omega
    · rw [h]; unfold ii_B; omega
section PE
variable {v : Nat → Nat → Int} {β : Nat → Int} {S : List Nat} {r b i j : Nat} {now : Int} {s : pe_S} {g g3 g4 g5 : Nat → Nat → Int}
theorem pe_no (hst : pe_at g s) (hc : ¬ ((lay_f r i j S 0).length ≤ 6 ∧ (wk_f v (lay_f r i j S 0) (β 1) (β 8) (if 0 ≤ g 13 3 then pl_len v (β 3) (β 4) S (β 6) (β 7) + g 13 6 else 1000000) (β 3) (β 4) now (lay_f r i j S 0) 0 (β 6) (β 7) 0 (β 9) []).1 = -1)) (h13 : g4 13 = g 13) : pe_at g4 (pe_in v β S r now b i j s) := by
  obtain ⟨q3, q4, q5, q6⟩ := hst
  unfold pe_in
  rw [← q3, ← q6, if_neg hc]
  unfold pe_at
  rw [h13]
  exact ⟨q3, q4, q5, q6⟩
theorem pe_yes (hst : pe_at g s) (hc : (lay_f r i j S 0).length ≤ 6 ∧ (wk_f v (lay_f r i j S 0) (β 1) (β 8) (if 0 ≤ g 13 3 then pl_len v (β 3) (β 4) S (β 6) (β 7) + g 13 6 else 1000000) (β 3) (β 4) now (lay_f r i j S 0) 0 (β 6) (β 7) 0 (β 9) []).1 = -1)
    (e5 : g5 = ii_up (ii_up (ii_up (ii_up g4 13 3 (b : Int)) 13 4 (i : Int)) 13 5 (j : Int)) 13 6 ((wk_f v (lay_f r i j S 0) (β 1) (β 8) (if 0 ≤ g 13 3 then pl_len v (β 3) (β 4) S (β 6) (β 7) + g 13 6 else 1000000) (β 3) (β 4) now (lay_f r i j S 0) 0 (β 6) (β 7) 0 (β 9) []).2 - pl_len v (β 3) (β 4) S (β 6) (β 7))) (h13 : g4 13 = g 13) : pe_at g5 (pe_in v β S r now b i j s) := by
  obtain ⟨q3, q4, q5, q6⟩ := hst
  unfold pe_in
  rw [← q3, ← q6, if_pos hc]
  subst e5
  refine ⟨?_, ?_, ?_, ?_⟩
  · rw [ii_up_k _ _ (by decide), ii_up_k _ _ (by decide), ii_up_k _ _ (by decide), ii_up_s]
  · rw [ii_up_k _ _ (by decide), ii_up_k _ _ (by decide), ii_up_s]
  · rw [ii_up_k _ _ (by decide), ii_up_s]
  · rw [ii_up_s]
theorem pe_bd_same (hbd : pe_bd g) (h13 : g4 13 = g 13) : pe_bd g4 := by
  unfold pe_bd
  rw [h13]
  exact hbd
theorem pe_b2 (hst : pe_at g s) (hbd : pe_bd g) (hb : b ≤ 10) (hA : ∀ bound, -2000 ≤ (wk_f v (lay_f r i j S 0) (β 1) (β 8) bound (β 3) (β 4) now (lay_f r i j S 0) 0 (β 6) (β 7) 0 (β 9) []).2 - pl_len v (β 3) (β 4) S (β 6) (β 7) ∧ (wk_f v (lay_f r i j S 0) (β 1) (β 8) bound (β 3) (β 4) now (lay_f r i j S 0) 0 (β 6) (β 7) 0 (β 9) []).2 - pl_len v (β 3) (β 4) S (β 6) (β 7) ≤ 2000) (h : pe_at g5 (pe_in v β S r now b i j s)) : pe_bd g5 := by
  obtain ⟨q3, q4, q5, q6⟩ := hst
  obtain ⟨r3, r6⟩ := hbd
  obtain ⟨p3, p4, p5, p6⟩ := h
  unfold pe_in at p3 p6
  unfold pe_bd
  rw [p3, p6]
  have hA2 := hA (if 0 ≤ s.1 then pl_len v (β 3) (β 4) S (β 6) (β 7) + s.2.2.2 else 1000000)
  generalize (if 0 ≤ s.1 then pl_len v (β 3) (β 4) S (β 6) (β 7) + s.2.2.2 else 1000000) = bd at hA2 ⊢
  split
  · exact ⟨by dsimp only; omega, by dsimp only; omega⟩
  · exact ⟨by omega, by omega⟩
end PE
set_option maxRecDepth 20000 in
set_option maxHeartbeats 2000000 in
theorem c_tryAll {l : Launch} {E : ab_E} {base : Nat} (hl : l.stackTraces = false) {ad : Nat → Nat} (f : Nat → Nat → Int) (w : Nat × Nat × Int64 × UInt64) {v : Nat → Nat → Int} {TS : Nat → List Nat} (hD : wd_C f w v TS) (r : Nat) (hrn : r ≤ w.2.1) (now : Int) (hnow : 0 ≤ now ∧ now ≤ 100000)  : ab_M l E base yX2_tryAll cX2_tryAll 11 none 9 0 0 [.ref (ad 13), .ref (ad 1), ii_v ((r : Nat) : Int), ii_v now] ab_x4 ad (f, w) (ab_F ad w (fun o g => o = none ∧ pa_at g (pa_b v (fun b => f (200 + b)) TS r now w.1 (-1, f 13 4, f 13 5, 1000000, 1)) ∧ pa_bd g ∧ ∀ o2, o2 ≠ 10 → o2 ≠ 11 → o2 ≠ 12 → o2 ≠ 13 → o2 ≠ 14 → o2 ≠ 24 → g o2 = f o2)) := by
  obtain ⟨Post, hPost⟩ : ∃ P : ab_P, P = (ab_F ad w (fun o g => o = none ∧ pa_at g (pa_b v (fun b => f (200 + b)) TS r now w.1 (-1, f 13 4, f 13 5, 1000000, 1)) ∧ pa_bd g ∧ ∀ o2, o2 ≠ 10 → o2 ≠ 11 → o2 ≠ 12 → o2 ≠ 13 → o2 ≠ 14 → o2 ≠ 24 → g o2 = f o2)) := ⟨_, rfl⟩
  rw [← hPost]
  refine ab_of RX2 [(0, .ref (ad 13)), (1, .ref (ad 1)), (2, ii_v ((r : Nat) : Int)), (3, ii_v now)] hl (by decide) rfl (Nat.le_of_ble_eq_true rfl) rfl ?_
  intro p e s m args below meth c C T0 hnm
  obtain ⟨hr, h4, -⟩ := id hD
  refine a_aload_n C dX2_tryAll_0 rfl ?_
  refine a_callV (o := 13) (As := []) C (c_forget hl f w) co_X2_forget in_X2 ml_X2_30 im_X2_forget se_X2_forget rfl rfl ar_X2_forget ⟨by decide, by decide, by decide, by decide⟩ rfl (Nat.le_of_ble_eq_true rfl) dX2_tryAll_1 (a_dV ?_) a_nV
  obtain ⟨g1, eg1⟩ : ∃ F : Nat → Nat → Int, F = ii_up (ii_up (ii_up f 13 3 (-1)) 13 6 1000000) 13 7 1 := ⟨_, rfl⟩
  rw [← eg1]
  refine a_iconst C dX2_tryAll_4 ?_
  refine a_istore (L' := [(0, .ref (ad 13)), (1, .ref (ad 1)), (2, ii_v ((r : Nat) : Int)), (3, ii_v now), (4, ii_v 0)]) C dX2_tryAll_5 (by decide) rfl ?_
  have loop7 : ∀ (NN7 : Nat) (b : Nat) (g : Nat → Nat → Int), w.1 - b < NN7 → (b ≤ w.1) → (∀ o2, o2 ≠ 10 → o2 ≠ 11 → o2 ≠ 12 → o2 ≠ 13 → o2 ≠ 14 → o2 ≠ 24 → g o2 = f o2) → (pa_at g (pa_b v (fun b => f (200 + b)) TS r now b (-1, f 13 4, f 13 5, 1000000, 1))) → (pa_bd g) → ab_W p l e (ab_rm 9 0 0) s m args below meth c E base 11 (ab_Q below E base Post args s 0 0) ab_x4 ad (g, w) 0 0 7 [(0, .ref (ad 13)), (1, .ref (ad 1)), (2, ii_v ((r : Nat) : Int)), (3, ii_v now), (4, ii_v ((b : Nat) : Int))] [] := by
    intro NN7
    induction NN7 with
    | zero => intro b g hNN; exact absurd hNN (Nat.not_lt_zero _)
    | succ NN7 ih7 =>
      intro b g hNN hbn hfr hst hbd
      have hDg : wd_C g w v TS := wd_same hD (fun o2 h => hfr o2 (by omega) (by omega) (by omega) (by omega) (by omega) (by omega))
      refine a_iload C dX2_tryAll_7 rfl ?_
      refine a_aload_n C dX2_tryAll_9 rfl ?_
      refine a_callL (o := 1) (As := []) C (c_lsize hl g w (Or.inl ⟨rfl, rfl, rfl⟩) (by omega)) co_Jx4a65c_size_8abf5 in_Jx4a65c ml_X2_33 im_Jx4a65c_size_8abf5 se_Jx4a65c_size_8abf5 rfl (Or.inl rfl) (by decide) ar_Jx4a65c_size_8abf5 ⟨by decide, by decide, by decide, by decide⟩ rfl (Nat.le_of_ble_eq_true rfl) dX2_tryAll_10 (a_dR ?_) a_nR
      refine a_icmp_ge (tgt := 181) C dX2_tryAll_13 rfl (by unfold ii_B; omega) (by unfold ii_B; omega) (fun h13 => ?_) (fun h13 => ?_)
      · skip
        refine a_vret C ?_ (by decide) (by decide) dX2_tryAll_181
        rw [hPost]
        refine ab_F_of ⟨rfl, ?_, hbd, hfr⟩
        rw [show w.1 = b by omega]
        exact hst
      · skip
        have hb : b < w.1 := by omega
        have hlv := hD.2.2.2.2.2 b hb
        have hBb := hD.2.2.2.1 b hb
        obtain ⟨hB1, hB3, hB4, hB6, hB7, hB8, hB9⟩ := id hBb
        have hwg := hfr (200 + b) (by omega) (by omega) (by omega) (by omega) (by omega) (by omega)
        refine a_aload_n C dX2_tryAll_16 rfl ?_
        refine a_iload C dX2_tryAll_17 rfl ?_
        refine a_callL (o := 1) (As := [ii_v ((b : Nat) : Int)]) C (c_lget hl g w (Or.inl ⟨rfl, rfl, rfl⟩) (by omega) ((b : Nat) : Int) b (by omega) (by omega)) co_Jx4a65c_get_915e3 in_Jx4a65c ml_X2_39 im_Jx4a65c_get_915e3 se_Jx4a65c_get_915e3 rfl (Or.inl rfl) (by decide) ar_Jx4a65c_get_915e3 ⟨by decide, by decide, by decide, by decide⟩ rfl (Nat.le_of_ble_eq_true rfl) dX2_tryAll_19 (a_dR ?_) a_nR
        refine a_ccast (ci := 2) C rfl (ob_bus hb h4) cl_X2_43 dX2_tryAll_22 ?_
        refine a_astore (L' := [(0, .ref (ad 13)), (1, .ref (ad 1)), (2, ii_v ((r : Nat) : Int)), (3, ii_v now), (4, ii_v ((b : Nat) : Int)), (5, .ref (ad (200 + b)))]) C dX2_tryAll_25 (by decide) rfl ?_
        refine a_aload_n C dX2_tryAll_27 rfl ?_
        refine a_get (ci := 3) (i := 0) (v := .ref (ad 9)) C iw_X2 rfl (by decide) rfl fl_X2_18 rfl rfl dX2_tryAll_28 ?_
        refine a_aload C dX2_tryAll_31 rfl ?_
        refine a_aload C dX2_tryAll_33 rfl ?_
        refine a_getN (ci := 2) (i := 5) (v := .ref (ad (200 + b + 10))) C iw_X1 rfl (by decide) rfl fn_X2_45 (ob_bus hb h4) rfl dX2_tryAll_35 ?_
        refine a_callVN (o := 9) (As := [.ref (ad (200 + b)), .ref (ad (200 + b + 10))]) C (c_lengthOf hl g w hr hDg.2.2.1 (ob_bus hb h4) (hDg.2.2.2.1 b hb) (ob_btour hb h4) (ar_btour hb h4) (hDg.2.2.2.2.1 b hb) hlv.2) co_X3_lengthOf in_X3 mn_X2_48 im_X3_lengthOf se_X3_lengthOf rfl rfl ar_X3_lengthOf ⟨by decide, by decide, by decide, by decide⟩ rfl (Nat.le_of_ble_eq_true rfl) dX2_tryAll_38 (a_dR ?_) a_nR
        rw [hwg]
        refine a_istore (L' := [(0, .ref (ad 13)), (1, .ref (ad 1)), (2, ii_v ((r : Nat) : Int)), (3, ii_v now), (4, ii_v ((b : Nat) : Int)), (5, .ref (ad (200 + b))), (6, ii_v (pl_len v (f (200 + b) 3) (f (200 + b) 4) (TS b) (f (200 + b) 6) (f (200 + b) 7)))]) C dX2_tryAll_41 (by decide) rfl ?_
        refine a_iconst C dX2_tryAll_43 ?_
        refine a_istore (L' := [(0, .ref (ad 13)), (1, .ref (ad 1)), (2, ii_v ((r : Nat) : Int)), (3, ii_v now), (4, ii_v ((b : Nat) : Int)), (5, .ref (ad (200 + b))), (6, ii_v (pl_len v (f (200 + b) 3) (f (200 + b) 4) (TS b) (f (200 + b) 6) (f (200 + b) 7))), (7, ii_v 0)]) C dX2_tryAll_44 (by decide) rfl ?_
        have loop46 : ∀ (NN46 : Nat) (i : Nat) (g : Nat → Nat → Int), (TS b).length + 1 - i < NN46 → (i ≤ (TS b).length + 1) → (∀ o2, o2 ≠ 10 → o2 ≠ 11 → o2 ≠ 12 → o2 ≠ 13 → o2 ≠ 14 → o2 ≠ 24 → g o2 = f o2) → (pa_at g (pa_i v (f (200 + b)) (TS b) r now b i (pa_b v (fun b => f (200 + b)) TS r now b (-1, f 13 4, f 13 5, 1000000, 1)))) → (pa_bd g) → ab_W p l e (ab_rm 9 0 0) s m args below meth c E base 11 (ab_Q below E base Post args s 0 0) ab_x4 ad (g, w) 0 0 46 [(0, .ref (ad 13)), (1, .ref (ad 1)), (2, ii_v ((r : Nat) : Int)), (3, ii_v now), (4, ii_v ((b : Nat) : Int)), (5, .ref (ad (200 + b))), (6, ii_v (pl_len v (f (200 + b) 3) (f (200 + b) 4) (TS b) (f (200 + b) 6) (f (200 + b) 7))), (7, ii_v ((i : Nat) : Int))] [] := by
          intro NN46
          induction NN46 with
          | zero => intro i g hNN; exact absurd hNN (Nat.not_lt_zero _)
          | succ NN46 ih46 =>
            intro i g hNN hin hfr hst hbd
            have hDg : wd_C g w v TS := wd_same hD (fun o2 h => hfr o2 (by omega) (by omega) (by omega) (by omega) (by omega) (by omega))
            have hwg : g (200 + b) = f (200 + b) := hfr _ (by omega) (by omega) (by omega) (by omega) (by omega) (by omega)
            refine a_iload C dX2_tryAll_46 rfl ?_
            refine a_aload C dX2_tryAll_48 rfl ?_
            refine a_getN (ci := 2) (i := 5) (v := .ref (ad (200 + b + 10))) C iw_X1 rfl (by decide) rfl fn_X2_45 (ob_bus hb h4) rfl dX2_tryAll_50 ?_
            refine a_getN (ci := 8) (i := 1) (v := ii_v (g (200 + b + 10) 1)) C iw_X7 rfl (by decide) rfl fn_X2_54 (ob_btour hb h4) rfl dX2_tryAll_53 ?_
            rw [(hDg.2.2.2.2.1 b hb).1]
            refine a_icmp_gt (tgt := 175) C dX2_tryAll_56 rfl (by unfold ii_B; omega) (by unfold ii_B; omega) (fun h56 => ?_) (fun h56 => ?_)
            · skip
              refine a_iinc (L' := [(0, .ref (ad 13)), (1, .ref (ad 1)), (2, ii_v ((r : Nat) : Int)), (3, ii_v now), (4, ii_v (((b : Nat) : Int) + 1)), (5, .ref (ad (200 + b))), (6, ii_v (pl_len v (f (200 + b) 3) (f (200 + b) 4) (TS b) (f (200 + b) 6) (f (200 + b) 7))), (7, ii_v ((i : Nat) : Int))]) C dX2_tryAll_175 rfl (by decide) rfl ?_
              refine a_goto (tgt := 7) C dX2_tryAll_178 rfl ?_
              refine a_pick [0, 1, 2, 3, 4] (L2 := [(0, .ref (ad 13)), (1, .ref (ad 1)), (2, ii_v ((r : Nat) : Int)), (3, ii_v now), (4, ii_v (((b : Nat) : Int) + 1))]) rfl ?_
              exact ih7 (b + 1) g (by omega) (by omega) hfr (by rw [show i = (TS b).length + 1 by omega] at hst; exact hst) hbd
            · skip
              refine a_iload C dX2_tryAll_59 rfl ?_
              refine a_istore (L' := [(0, .ref (ad 13)), (1, .ref (ad 1)), (2, ii_v ((r : Nat) : Int)), (3, ii_v now), (4, ii_v ((b : Nat) : Int)), (5, .ref (ad (200 + b))), (6, ii_v (pl_len v (f (200 + b) 3) (f (200 + b) 4) (TS b) (f (200 + b) 6) (f (200 + b) 7))), (7, ii_v ((i : Nat) : Int)), (8, ii_v ((i : Nat) : Int))]) C dX2_tryAll_61 (by decide) rfl ?_
              have loop63 : ∀ (NN63 : Nat) (d : Nat) (g : Nat → Nat → Int), (TS b).length + 1 - i - d < NN63 → (i + d ≤ (TS b).length + 1) → (∀ o2, o2 ≠ 10 → o2 ≠ 11 → o2 ≠ 12 → o2 ≠ 13 → o2 ≠ 14 → o2 ≠ 24 → g o2 = f o2) → (pa_at g (pa_j v (f (200 + b)) (TS b) r now b i d (pa_i v (f (200 + b)) (TS b) r now b i (pa_b v (fun b => f (200 + b)) TS r now b (-1, f 13 4, f 13 5, 1000000, 1))))) → (pa_bd g) → ab_W p l e (ab_rm 9 0 0) s m args below meth c E base 11 (ab_Q below E base Post args s 0 0) ab_x4 ad (g, w) 0 0 63 [(0, .ref (ad 13)), (1, .ref (ad 1)), (2, ii_v ((r : Nat) : Int)), (3, ii_v now), (4, ii_v ((b : Nat) : Int)), (5, .ref (ad (200 + b))), (6, ii_v (pl_len v (f (200 + b) 3) (f (200 + b) 4) (TS b) (f (200 + b) 6) (f (200 + b) 7))), (7, ii_v ((i : Nat) : Int)), (8, ii_v ((i + d : Nat) : Int))] [] := by
                intro NN63
                induction NN63 with
                | zero => intro d g hNN; exact absurd hNN (Nat.not_lt_zero _)
                | succ NN63 ih63 =>
                  intro d g hNN hdn hfr hst hbd
                  have hDg : wd_C g w v TS := wd_same hD (fun o2 h => hfr o2 (by omega) (by omega) (by omega) (by omega) (by omega) (by omega))
                  have hwg : g (200 + b) = f (200 + b) := hfr _ (by omega) (by omega) (by omega) (by omega) (by omega) (by omega)
                  refine a_iload C dX2_tryAll_63 rfl ?_
                  refine a_aload C dX2_tryAll_65 rfl ?_
                  refine a_getN (ci := 2) (i := 5) (v := .ref (ad (200 + b + 10))) C iw_X1 rfl (by decide) rfl fn_X2_45 (ob_bus hb h4) rfl dX2_tryAll_67 ?_
                  refine a_getN (ci := 8) (i := 1) (v := ii_v (g (200 + b + 10) 1)) C iw_X7 rfl (by decide) rfl fn_X2_54 (ob_btour hb h4) rfl dX2_tryAll_70 ?_
                  rw [(hDg.2.2.2.2.1 b hb).1]
                  refine a_icmp_gt (tgt := 169) C dX2_tryAll_73 rfl (by unfold ii_B; omega) (by unfold ii_B; omega) (fun h73 => ?_) (fun h73 => ?_)
                  · skip
                    refine a_iinc (L' := [(0, .ref (ad 13)), (1, .ref (ad 1)), (2, ii_v ((r : Nat) : Int)), (3, ii_v now), (4, ii_v ((b : Nat) : Int)), (5, .ref (ad (200 + b))), (6, ii_v (pl_len v (f (200 + b) 3) (f (200 + b) 4) (TS b) (f (200 + b) 6) (f (200 + b) 7))), (7, ii_v (((i : Nat) : Int) + 1)), (8, ii_v ((i + d : Nat) : Int))]) C dX2_tryAll_169 rfl (by decide) rfl ?_
                    refine a_goto (tgt := 46) C dX2_tryAll_172 rfl ?_
                    refine a_pick [0, 1, 2, 3, 4, 5, 6, 7] (L2 := [(0, .ref (ad 13)), (1, .ref (ad 1)), (2, ii_v ((r : Nat) : Int)), (3, ii_v now), (4, ii_v ((b : Nat) : Int)), (5, .ref (ad (200 + b))), (6, ii_v (pl_len v (f (200 + b) 3) (f (200 + b) 4) (TS b) (f (200 + b) 6) (f (200 + b) 7))), (7, ii_v (((i : Nat) : Int) + 1))]) rfl ?_
                    exact ih46 (i + 1) g (by omega) (by omega) hfr (by rw [show d = (TS b).length + 1 - i by omega] at hst; exact hst) hbd
                  · skip
                    refine a_aload_n C dX2_tryAll_76 rfl ?_
                    refine a_aload C dX2_tryAll_77 rfl ?_
                    refine a_getN (ci := 2) (i := 5) (v := .ref (ad (200 + b + 10))) C iw_X1 rfl (by decide) rfl fn_X2_45 (ob_bus hb h4) rfl dX2_tryAll_79 ?_
                    refine a_iload_n C dX2_tryAll_82 rfl ?_
                    refine a_iload C dX2_tryAll_83 rfl ?_
                    refine a_iload C dX2_tryAll_85 rfl ?_
                    refine a_callV (o := 13) (As := [.ref (ad (200 + b + 10)), ii_v ((r : Nat) : Int), ii_v ((i : Nat) : Int), ii_v ((i + d : Nat) : Int)]) C (c_lay hl g w (ob_btour hb h4) (ar_btour hb h4) (hDg.2.2.2.2.1 b hb) (by omega) hlv.1 r i (i + d) (by omega) (by omega) (by omega)) co_X2_lay in_X2 ml_X2_57 im_X2_lay se_X2_lay rfl rfl ar_X2_lay ⟨by decide, by decide, by decide, by decide⟩ rfl (Nat.le_of_ble_eq_true rfl) dX2_tryAll_87 (a_dF ?_) a_nF
                    intro vg2 g2 hvg2
                    obtain ⟨rfl, hsg2, hfg2⟩ := hvg2
                    have hfrg2 : ∀ o2, o2 ≠ 10 → o2 ≠ 11 → o2 ≠ 12 → o2 ≠ 13 → o2 ≠ 14 → o2 ≠ 24 → g2 o2 = f o2 := fun o2 h1 h2 h3 h4 h5 h6 => (hfg2 o2 h5 h6).trans (hfr o2 h1 h2 h3 h4 h5 h6)
                    have hDg2 : wd_C g2 w v TS := wd_same hD (fun o2 h => hfrg2 o2 (by omega) (by omega) (by omega) (by omega) (by omega) (by omega))
                    have hwg2 : g2 (200 + b) = f (200 + b) := hfrg2 _ (by omega) (by omega) (by omega) (by omega) (by omega) (by omega)
                    have hqg2 : ∀ j, j < (lay_f r i (i + d) (TS b) 0).length → (lay_f r i (i + d) (TS b) 0).getD j 0 / 2 ≤ w.2.1 := lay_ok hrn hlv.2
                    have hlg2 : (lay_f r i (i + d) (TS b) 0).length = (TS b).length + 2 := lay_length (by omega) (by omega) 0 (by omega)
                    refine a_aload_n C dX2_tryAll_90 rfl ?_
                    refine a_get (ci := 3) (i := 0) (v := .ref (ad 9)) C iw_X2 rfl (by decide) rfl fl_X2_18 rfl rfl dX2_tryAll_91 ?_
                    refine a_aload C dX2_tryAll_94 rfl ?_
                    refine a_aload_n C dX2_tryAll_96 rfl ?_
                    refine a_get (ci := 3) (i := 2) (v := .ref (ad 14)) C iw_X2 rfl (by decide) rfl fl_X2_12 rfl rfl dX2_tryAll_97 ?_
                    refine a_iload_n C dX2_tryAll_100 rfl ?_
                    refine a_callVN (o := 9) (As := [.ref (ad (200 + b)), .ref (ad 14), ii_v now]) C (c_faultOf hl g2 w hr hDg2.2.2.1 (ob_bus hb h4) (hDg2.2.2.2.1 b hb) rfl rfl hsg2 hqg2 now hnow) co_X3_faultOf in_X3 mn_X2_61 im_X3_faultOf se_X3_faultOf rfl rfl ar_X3_faultOf ⟨by decide, by decide, by decide, by decide⟩ rfl (Nat.le_of_ble_eq_true rfl) dX2_tryAll_101 (a_dF ?_) a_nF
                    intro vg3 g3 hvg3
                    obtain ⟨hr1, hTg3, hfg3⟩ := hvg3
                    rw [hwg2] at hr1
                    subst hr1
                    have hfrg3 : ∀ o2, o2 ≠ 10 → o2 ≠ 11 → o2 ≠ 12 → o2 ≠ 13 → o2 ≠ 14 → o2 ≠ 24 → g3 o2 = f o2 := fun o2 h1 h2 h3 h4 h5 h6 => (hfg3 o2 h1).trans (hfrg2 o2 h1 h2 h3 h4 h5 h6)
                    have hDg3 : wd_C g3 w v TS := wd_same hD (fun o2 h => hfrg3 o2 (by omega) (by omega) (by omega) (by omega) (by omega) (by omega))
                    have hwg3 : g3 (200 + b) = f (200 + b) := hfrg3 _ (by omega) (by omega) (by omega) (by omega) (by omega) (by omega)
                    have h13 : g3 13 = g 13 := (hfg3 13 (by decide)).trans (hfg2 13 (by decide) (by decide))
                    have hPg3 : ts_I g3 14 (lay_f r i (i + d) (TS b) 0) := ts_same hsg2 (hfg3 _ (by decide)) (hfg3 _ (by decide))
                    have hFb := pl_fault_b v (lay_f r i (i + d) (TS b) 0) (f (200 + b) 6) (f (200 + b) 7) now (f (200 + b) 9) (f (200 + b) 1) (f (200 + b) 3) (f (200 + b) 4) (f (200 + b) 8)
                    have hL0 := len_b hB3 hB4 (fun q h => (hD.2.2.1.1 q h).2.2) (TS b) (f (200 + b) 6) (f (200 + b) 7) hlv.2 hB6 hB7
                    have hL1 := len_b hB3 hB4 (fun q h => (hD.2.2.1.1 q h).2.2) (lay_f r i (i + d) (TS b) 0) (f (200 + b) 6) (f (200 + b) 7) hqg2 hB6 hB7
                    refine a_istore (L' := [(0, .ref (ad 13)), (1, .ref (ad 1)), (2, ii_v ((r : Nat) : Int)), (3, ii_v now), (4, ii_v ((b : Nat) : Int)), (5, .ref (ad (200 + b))), (6, ii_v (pl_len v (f (200 + b) 3) (f (200 + b) 4) (TS b) (f (200 + b) 6) (f (200 + b) 7))), (7, ii_v ((i : Nat) : Int)), (8, ii_v ((i + d : Nat) : Int)), (9, ii_v (pl_fault v (lay_f r i (i + d) (TS b) 0) (f (200 + b) 6) (f (200 + b) 7) now (f (200 + b) 9) (f (200 + b) 1) (f (200 + b) 3) (f (200 + b) 4) (f (200 + b) 8)))]) C dX2_tryAll_104 (by decide) rfl ?_
                    refine a_aload_n C dX2_tryAll_106 rfl ?_
                    refine a_aload_n C dX2_tryAll_107 rfl ?_
                    refine a_get (ci := 3) (i := 7) (v := ii_v (g3 13 7)) C iw_X2 rfl (by decide) rfl fl_X2_65 rfl rfl dX2_tryAll_108 ?_
                    refine a_top (w := ii_v (g 13 7)) (congrArg (fun q => ii_v q) (congrFun h13 7)) ?_
                    obtain ⟨q3, q4, q5, q6, q7⟩ := id hst
                    obtain ⟨r3, r6, r7⟩ := id hbd
                    refine a_iload C dX2_tryAll_111 rfl ?_
                    refine a_max C ml_X2_68 dX2_tryAll_113 (by decide) (Nat.le_of_ble_eq_true rfl) (by decide) (by unfold ii_B; omega) (by unfold ii_B; omega) ?_
                    refine a_put (ci := 3) (i := 7) C iw_X2 rfl (by decide) rfl tyX2 tyX2_ok nmX2 rfl rfl fl_X2_65 rfl rfl rfl rfl dX2_tryAll_116 ?_
                    obtain ⟨g4, eg4⟩ : ∃ F : Nat → Nat → Int, F = ii_up g3 13 7 (max (g 13 7) (pl_fault v (lay_f r i (i + d) (TS b) 0) (f (200 + b) 6) (f (200 + b) 7) now (f (200 + b) 9) (f (200 + b) 1) (f (200 + b) 3) (f (200 + b) 4) (f (200 + b) 8))) := ⟨_, rfl⟩
                    rw [← eg4]
                    have hfrg4 : ∀ o2, o2 ≠ 10 → o2 ≠ 11 → o2 ≠ 12 → o2 ≠ 13 → o2 ≠ 14 → o2 ≠ 24 → g4 o2 = f o2 := fun o2 h1 h2 h3 h4 h5 h6 => by rw [eg4, ii_up_row _ _ h4]; exact hfrg3 o2 h1 h2 h3 h4 h5 h6
                    have hDg4 : wd_C g4 w v TS := wd_same hD (fun o2 h => hfrg4 o2 (by omega) (by omega) (by omega) (by omega) (by omega) (by omega))
                    have hwg4 : g4 (200 + b) = f (200 + b) := hfrg4 _ (by omega) (by omega) (by omega) (by omega) (by omega) (by omega)
                    have hPg4 : ts_I g4 14 (lay_f r i (i + d) (TS b) 0) := ts_same hPg3 (by rw [eg4]; exact ii_up_row _ _ (by decide)) (by rw [eg4]; exact ii_up_row _ _ (by decide))
                    have h6g4 : g4 13 6 = g 13 6 := by rw [eg4, ii_up_k _ _ (by decide)]; exact congrFun h13 6
                    refine a_aload_n C dX2_tryAll_119 rfl ?_
                    refine a_get (ci := 3) (i := 0) (v := .ref (ad 9)) C iw_X2 rfl (by decide) rfl fl_X2_18 rfl rfl dX2_tryAll_120 ?_
                    refine a_aload C dX2_tryAll_123 rfl ?_
                    refine a_aload_n C dX2_tryAll_125 rfl ?_
                    refine a_get (ci := 3) (i := 2) (v := .ref (ad 14)) C iw_X2 rfl (by decide) rfl fl_X2_12 rfl rfl dX2_tryAll_126 ?_
                    refine a_callVN (o := 9) (As := [.ref (ad (200 + b)), .ref (ad 14)]) C (c_lengthOf hl g4 w hr hDg4.2.2.1 (ob_bus hb h4) (hDg4.2.2.2.1 b hb) rfl rfl hPg4 (lay_ok hrn hlv.2)) co_X3_lengthOf in_X3 mn_X2_48 im_X3_lengthOf se_X3_lengthOf rfl rfl ar_X3_lengthOf ⟨by decide, by decide, by decide, by decide⟩ rfl (Nat.le_of_ble_eq_true rfl) dX2_tryAll_129 (a_dR ?_) a_nR
                    rw [hwg4]
                    refine a_iload C dX2_tryAll_132 rfl ?_
                    refine a_isub C dX2_tryAll_134 ?_
                    refine a_istore (L' := [(0, .ref (ad 13)), (1, .ref (ad 1)), (2, ii_v ((r : Nat) : Int)), (3, ii_v now), (4, ii_v ((b : Nat) : Int)), (5, .ref (ad (200 + b))), (6, ii_v (pl_len v (f (200 + b) 3) (f (200 + b) 4) (TS b) (f (200 + b) 6) (f (200 + b) 7))), (7, ii_v ((i : Nat) : Int)), (8, ii_v ((i + d : Nat) : Int)), (9, ii_v (pl_fault v (lay_f r i (i + d) (TS b) 0) (f (200 + b) 6) (f (200 + b) 7) now (f (200 + b) 9) (f (200 + b) 1) (f (200 + b) 3) (f (200 + b) 4) (f (200 + b) 8))), (10, ii_v ((pl_len v (f (200 + b) 3) (f (200 + b) 4) (lay_f r i (i + d) (TS b) 0) (f (200 + b) 6) (f (200 + b) 7)) - (pl_len v (f (200 + b) 3) (f (200 + b) 4) (TS b) (f (200 + b) 6) (f (200 + b) 7))))]) C dX2_tryAll_135 (by decide) rfl ?_
                    refine a_iload C dX2_tryAll_137 rfl ?_
                    refine a_if_ne (tgt := 163) C dX2_tryAll_139 rfl (by unfold ii_B; omega) (fun h139 => ?_) (fun h139 => ?_)
                    · skip
                      refine a_iinc (L' := [(0, .ref (ad 13)), (1, .ref (ad 1)), (2, ii_v ((r : Nat) : Int)), (3, ii_v now), (4, ii_v ((b : Nat) : Int)), (5, .ref (ad (200 + b))), (6, ii_v (pl_len v (f (200 + b) 3) (f (200 + b) 4) (TS b) (f (200 + b) 6) (f (200 + b) 7))), (7, ii_v ((i : Nat) : Int)), (8, ii_v (((i + d : Nat) : Int) + 1)), (9, ii_v (pl_fault v (lay_f r i (i + d) (TS b) 0) (f (200 + b) 6) (f (200 + b) 7) now (f (200 + b) 9) (f (200 + b) 1) (f (200 + b) 3) (f (200 + b) 4) (f (200 + b) 8))), (10, ii_v ((pl_len v (f (200 + b) 3) (f (200 + b) 4) (lay_f r i (i + d) (TS b) 0) (f (200 + b) 6) (f (200 + b) 7)) - (pl_len v (f (200 + b) 3) (f (200 + b) 4) (TS b) (f (200 + b) 6) (f (200 + b) 7))))]) C dX2_tryAll_163 rfl (by decide) rfl ?_
                      refine a_goto (tgt := 63) C dX2_tryAll_166 rfl ?_
                      refine a_pick [0, 1, 2, 3, 4, 5, 6, 7, 8] (L2 := [(0, .ref (ad 13)), (1, .ref (ad 1)), (2, ii_v ((r : Nat) : Int)), (3, ii_v now), (4, ii_v ((b : Nat) : Int)), (5, .ref (ad (200 + b))), (6, ii_v (pl_len v (f (200 + b) 3) (f (200 + b) 4) (TS b) (f (200 + b) 6) (f (200 + b) 7))), (7, ii_v ((i : Nat) : Int)), (8, ii_v (((i + d : Nat) : Int) + 1))]) rfl ?_
                      exact ih63 (d + 1) g4 (by omega) (by omega) hfrg4 (pa_no hst (by omega) eg4 h13) (pa_b2 (b := b) hst hbd (by omega) (by omega) (by omega) (pa_no hst (by omega) eg4 h13))
                    · skip
                      refine a_iload C dX2_tryAll_142 rfl ?_
                      refine a_aload_n C dX2_tryAll_144 rfl ?_
                      refine a_get (ci := 3) (i := 6) (v := ii_v (g4 13 6)) C iw_X2 rfl (by decide) rfl fl_X2_74 rfl rfl dX2_tryAll_145 ?_
                      refine a_top (w := ii_v (g 13 6)) (congrArg (fun q => ii_v q) h6g4) ?_
                      refine a_icmp_ge (tgt := 163) C dX2_tryAll_148 rfl (by unfold ii_B; omega) (by unfold ii_B; omega) (fun h148 => ?_) (fun h148 => ?_)
                      · skip
                        refine a_iinc (L' := [(0, .ref (ad 13)), (1, .ref (ad 1)), (2, ii_v ((r : Nat) : Int)), (3, ii_v now), (4, ii_v ((b : Nat) : Int)), (5, .ref (ad (200 + b))), (6, ii_v (pl_len v (f (200 + b) 3) (f (200 + b) 4) (TS b) (f (200 + b) 6) (f (200 + b) 7))), (7, ii_v ((i : Nat) : Int)), (8, ii_v (((i + d : Nat) : Int) + 1)), (9, ii_v (pl_fault v (lay_f r i (i + d) (TS b) 0) (f (200 + b) 6) (f (200 + b) 7) now (f (200 + b) 9) (f (200 + b) 1) (f (200 + b) 3) (f (200 + b) 4) (f (200 + b) 8))), (10, ii_v ((pl_len v (f (200 + b) 3) (f (200 + b) 4) (lay_f r i (i + d) (TS b) 0) (f (200 + b) 6) (f (200 + b) 7)) - (pl_len v (f (200 + b) 3) (f (200 + b) 4) (TS b) (f (200 + b) 6) (f (200 + b) 7))))]) C dX2_tryAll_163 rfl (by decide) rfl ?_
                        refine a_goto (tgt := 63) C dX2_tryAll_166 rfl ?_
                        refine a_pick [0, 1, 2, 3, 4, 5, 6, 7, 8] (L2 := [(0, .ref (ad 13)), (1, .ref (ad 1)), (2, ii_v ((r : Nat) : Int)), (3, ii_v now), (4, ii_v ((b : Nat) : Int)), (5, .ref (ad (200 + b))), (6, ii_v (pl_len v (f (200 + b) 3) (f (200 + b) 4) (TS b) (f (200 + b) 6) (f (200 + b) 7))), (7, ii_v ((i : Nat) : Int)), (8, ii_v (((i + d : Nat) : Int) + 1))]) rfl ?_
                        exact ih63 (d + 1) g4 (by omega) (by omega) hfrg4 (pa_no hst (by omega) eg4 h13) (pa_b2 (b := b) hst hbd (by omega) (by omega) (by omega) (pa_no hst (by omega) eg4 h13))
                      · skip
                        refine a_aload_n C dX2_tryAll_151 rfl ?_
                        refine a_iload C dX2_tryAll_152 rfl ?_
                        refine a_iload C dX2_tryAll_154 rfl ?_
                        refine a_iload C dX2_tryAll_156 rfl ?_
                        refine a_iload C dX2_tryAll_158 rfl ?_
                        refine a_callV (o := 13) (As := [ii_v ((b : Nat) : Int), ii_v ((i : Nat) : Int), ii_v ((i + d : Nat) : Int), ii_v ((pl_len v (f (200 + b) 3) (f (200 + b) 4) (lay_f r i (i + d) (TS b) 0) (f (200 + b) 6) (f (200 + b) 7)) - (pl_len v (f (200 + b) 3) (f (200 + b) 4) (TS b) (f (200 + b) 6) (f (200 + b) 7)))]) C (c_keep hl g4 w ((b : Nat) : Int) ((i : Nat) : Int) ((i + d : Nat) : Int) ((pl_len v (f (200 + b) 3) (f (200 + b) 4) (lay_f r i (i + d) (TS b) 0) (f (200 + b) 6) (f (200 + b) 7)) - (pl_len v (f (200 + b) 3) (f (200 + b) 4) (TS b) (f (200 + b) 6) (f (200 + b) 7)))) co_X2_keep in_X2 ml_X2_77 im_X2_keep se_X2_keep rfl rfl ar_X2_keep ⟨by decide, by decide, by decide, by decide⟩ rfl (Nat.le_of_ble_eq_true rfl) dX2_tryAll_160 (a_dV ?_) a_nV
                        obtain ⟨g5, eg5⟩ : ∃ F : Nat → Nat → Int, F = ii_up (ii_up (ii_up (ii_up g4 13 3 ((b : Nat) : Int)) 13 4 ((i : Nat) : Int)) 13 5 ((i + d : Nat) : Int)) 13 6 ((pl_len v (f (200 + b) 3) (f (200 + b) 4) (lay_f r i (i + d) (TS b) 0) (f (200 + b) 6) (f (200 + b) 7)) - (pl_len v (f (200 + b) 3) (f (200 + b) 4) (TS b) (f (200 + b) 6) (f (200 + b) 7))) := ⟨_, rfl⟩
                        rw [← eg5]
                        have hfrg5 : ∀ o2, o2 ≠ 10 → o2 ≠ 11 → o2 ≠ 12 → o2 ≠ 13 → o2 ≠ 14 → o2 ≠ 24 → g5 o2 = f o2 := fun o2 h1 h2 h3 h4 h5 h6 => by rw [eg5, ii_up_row _ _ h4, ii_up_row _ _ h4, ii_up_row _ _ h4, ii_up_row _ _ h4]; exact hfrg4 o2 h1 h2 h3 h4 h5 h6
                        refine a_iinc (L' := [(0, .ref (ad 13)), (1, .ref (ad 1)), (2, ii_v ((r : Nat) : Int)), (3, ii_v now), (4, ii_v ((b : Nat) : Int)), (5, .ref (ad (200 + b))), (6, ii_v (pl_len v (f (200 + b) 3) (f (200 + b) 4) (TS b) (f (200 + b) 6) (f (200 + b) 7))), (7, ii_v ((i : Nat) : Int)), (8, ii_v (((i + d : Nat) : Int) + 1)), (9, ii_v (pl_fault v (lay_f r i (i + d) (TS b) 0) (f (200 + b) 6) (f (200 + b) 7) now (f (200 + b) 9) (f (200 + b) 1) (f (200 + b) 3) (f (200 + b) 4) (f (200 + b) 8))), (10, ii_v ((pl_len v (f (200 + b) 3) (f (200 + b) 4) (lay_f r i (i + d) (TS b) 0) (f (200 + b) 6) (f (200 + b) 7)) - (pl_len v (f (200 + b) 3) (f (200 + b) 4) (TS b) (f (200 + b) 6) (f (200 + b) 7))))]) C dX2_tryAll_163 rfl (by decide) rfl ?_
                        refine a_goto (tgt := 63) C dX2_tryAll_166 rfl ?_
                        refine a_pick [0, 1, 2, 3, 4, 5, 6, 7, 8] (L2 := [(0, .ref (ad 13)), (1, .ref (ad 1)), (2, ii_v ((r : Nat) : Int)), (3, ii_v now), (4, ii_v ((b : Nat) : Int)), (5, .ref (ad (200 + b))), (6, ii_v (pl_len v (f (200 + b) 3) (f (200 + b) 4) (TS b) (f (200 + b) 6) (f (200 + b) 7))), (7, ii_v ((i : Nat) : Int)), (8, ii_v (((i + d : Nat) : Int) + 1))]) rfl ?_
                        exact ih63 (d + 1) g5 (by omega) (by omega) hfrg5 (pa_yes hst (by omega) (by omega) eg4 h13 eg5) (pa_b2 (b := b) hst hbd (by omega) (by omega) (by omega) (pa_yes hst (by omega) (by omega) eg4 h13 eg5))
              exact loop63 (_ + 1) 0 g (Nat.lt_succ_self _) (by omega) hfr hst hbd
        exact loop46 (_ + 1) 0 g (Nat.lt_succ_self _) (Nat.zero_le _) hfr hst hbd
  exact loop7 (_ + 1) 0 g1 (Nat.lt_succ_self _) (Nat.zero_le _) (fun o2 h1 h2 h3 h4 h5 h6 => by rw [eg1, ii_up_row _ _ h4, ii_up_row _ _ h4, ii_up_row _ _ h4]) (by rw [eg1]; exact pa_at0 f) (by rw [eg1]; exact pa_bd0 f)
set_option maxRecDepth 20000 in
set_option maxHeartbeats 2000000 in
theorem c_tryEarly {l : Launch} {E : ab_E} {base : Nat} (hl : l.stackTraces = false) {ad : Nat → Nat} (f : Nat → Nat → Int) (w : Nat × Nat × Int64 × UInt64) {v : Nat → Nat → Int} {TS : Nat → List Nat} (hD : wd_C f w v TS) (r : Nat) (hrn : r ≤ w.2.1) (now : Int) (hnow : 0 ≤ now ∧ now ≤ 100000)  : ab_M l E base yX2_tryEarly cX2_tryEarly 10 none 9 0 0 [.ref (ad 13), .ref (ad 1), ii_v ((r : Nat) : Int), ii_v now] ab_x4 ad (f, w) (ab_F ad w (fun o g => o = none ∧ pe_at g (pe_b v (fun b => f (200 + b)) TS r now w.1 (-1, f 13 4, f 13 5, 1000000)) ∧ pe_bd g ∧ ∀ o2, o2 ≠ 10 → o2 ≠ 11 → o2 ≠ 12 → o2 ≠ 13 → o2 ≠ 14 → o2 ≠ 24 → g o2 = f o2)) := by
  obtain ⟨Post, hPost⟩ : ∃ P : ab_P, P = (ab_F ad w (fun o g => o = none ∧ pe_at g (pe_b v (fun b => f (200 + b)) TS r now w.1 (-1, f 13 4, f 13 5, 1000000)) ∧ pe_bd g ∧ ∀ o2, o2 ≠ 10 → o2 ≠ 11 → o2 ≠ 12 → o2 ≠ 13 → o2 ≠ 14 → o2 ≠ 24 → g o2 = f o2)) := ⟨_, rfl⟩
  rw [← hPost]
  refine ab_of RX2 [(0, .ref (ad 13)), (1, .ref (ad 1)), (2, ii_v ((r : Nat) : Int)), (3, ii_v now)] hl (by decide) rfl (Nat.le_of_ble_eq_true rfl) rfl ?_
  intro p e s m args below meth c C T0 hnm
  obtain ⟨hr, h4, -⟩ := id hD
  refine a_aload_n C dX2_tryEarly_0 rfl ?_
  refine a_callV (o := 13) (As := []) C (c_forget hl f w) co_X2_forget in_X2 ml_X2_30 im_X2_forget se_X2_forget rfl rfl ar_X2_forget ⟨by decide, by decide, by decide, by decide⟩ rfl (Nat.le_of_ble_eq_true rfl) dX2_tryEarly_1 (a_dV ?_) a_nV
  obtain ⟨g1, eg1⟩ : ∃ F : Nat → Nat → Int, F = ii_up (ii_up (ii_up f 13 3 (-1)) 13 6 1000000) 13 7 1 := ⟨_, rfl⟩
  rw [← eg1]
  refine a_iconst C dX2_tryEarly_4 ?_
  refine a_istore (L' := [(0, .ref (ad 13)), (1, .ref (ad 1)), (2, ii_v ((r : Nat) : Int)), (3, ii_v now), (4, ii_v 0)]) C dX2_tryEarly_5 (by decide) rfl ?_
  have loop7 : ∀ (NN7 : Nat) (b : Nat) (g : Nat → Nat → Int), w.1 - b < NN7 → (b ≤ w.1) → (∀ o2, o2 ≠ 10 → o2 ≠ 11 → o2 ≠ 12 → o2 ≠ 13 → o2 ≠ 14 → o2 ≠ 24 → g o2 = f o2) → (pe_at g (pe_b v (fun b => f (200 + b)) TS r now b (-1, f 13 4, f 13 5, 1000000))) → (pe_bd g) → ab_W p l e (ab_rm 9 0 0) s m args below meth c E base 10 (ab_Q below E base Post args s 0 0) ab_x4 ad (g, w) 0 0 7 [(0, .ref (ad 13)), (1, .ref (ad 1)), (2, ii_v ((r : Nat) : Int)), (3, ii_v now), (4, ii_v ((b : Nat) : Int))] [] := by
    intro NN7
    induction NN7 with
    | zero => intro b g hNN; exact absurd hNN (Nat.not_lt_zero _)
    | succ NN7 ih7 =>
      intro b g hNN hbn hfr hst hbd
      have hDg : wd_C g w v TS := wd_same hD (fun o2 h => hfr o2 (by omega) (by omega) (by omega) (by omega) (by omega) (by omega))
      refine a_iload C dX2_tryEarly_7 rfl ?_
      refine a_aload_n C dX2_tryEarly_9 rfl ?_
      refine a_callL (o := 1) (As := []) C (c_lsize hl g w (Or.inl ⟨rfl, rfl, rfl⟩) (by omega)) co_Jx4a65c_size_8abf5 in_Jx4a65c ml_X2_33 im_Jx4a65c_size_8abf5 se_Jx4a65c_size_8abf5 rfl (Or.inl rfl) (by decide) ar_Jx4a65c_size_8abf5 ⟨by decide, by decide, by decide, by decide⟩ rfl (Nat.le_of_ble_eq_true rfl) dX2_tryEarly_10 (a_dR ?_) a_nR
      refine a_icmp_ge (tgt := 169) C dX2_tryEarly_13 rfl (by unfold ii_B; omega) (by unfold ii_B; omega) (fun h13 => ?_) (fun h13 => ?_)
      · skip
        refine a_vret C ?_ (by decide) (by decide) dX2_tryEarly_169
        rw [hPost]
        refine ab_F_of ⟨rfl, ?_, hbd, hfr⟩
        rw [show w.1 = b by omega]
        exact hst
      · skip
        have hb : b < w.1 := by omega
        have hlv := hD.2.2.2.2.2 b hb
        have hBb := hD.2.2.2.1 b hb
        obtain ⟨hB1, hB3, hB4, hB6, hB7, hB8, hB9⟩ := id hBb
        have hwg := hfr (200 + b) (by omega) (by omega) (by omega) (by omega) (by omega) (by omega)
        refine a_aload_n C dX2_tryEarly_16 rfl ?_
        refine a_iload C dX2_tryEarly_17 rfl ?_
        refine a_callL (o := 1) (As := [ii_v ((b : Nat) : Int)]) C (c_lget hl g w (Or.inl ⟨rfl, rfl, rfl⟩) (by omega) ((b : Nat) : Int) b (by omega) (by omega)) co_Jx4a65c_get_915e3 in_Jx4a65c ml_X2_39 im_Jx4a65c_get_915e3 se_Jx4a65c_get_915e3 rfl (Or.inl rfl) (by decide) ar_Jx4a65c_get_915e3 ⟨by decide, by decide, by decide, by decide⟩ rfl (Nat.le_of_ble_eq_true rfl) dX2_tryEarly_19 (a_dR ?_) a_nR
        refine a_ccast (ci := 2) C rfl (ob_bus hb h4) cl_X2_43 dX2_tryEarly_22 ?_
        refine a_astore (L' := [(0, .ref (ad 13)), (1, .ref (ad 1)), (2, ii_v ((r : Nat) : Int)), (3, ii_v now), (4, ii_v ((b : Nat) : Int)), (5, .ref (ad (200 + b)))]) C dX2_tryEarly_25 (by decide) rfl ?_
        refine a_aload_n C dX2_tryEarly_27 rfl ?_
        refine a_get (ci := 3) (i := 0) (v := .ref (ad 9)) C iw_X2 rfl (by decide) rfl fl_X2_18 rfl rfl dX2_tryEarly_28 ?_
        refine a_aload C dX2_tryEarly_31 rfl ?_
        refine a_aload C dX2_tryEarly_33 rfl ?_
        refine a_getN (ci := 2) (i := 5) (v := .ref (ad (200 + b + 10))) C iw_X1 rfl (by decide) rfl fn_X2_45 (ob_bus hb h4) rfl dX2_tryEarly_35 ?_
        refine a_callVN (o := 9) (As := [.ref (ad (200 + b)), .ref (ad (200 + b + 10))]) C (c_lengthOf hl g w hr hDg.2.2.1 (ob_bus hb h4) (hDg.2.2.2.1 b hb) (ob_btour hb h4) (ar_btour hb h4) (hDg.2.2.2.2.1 b hb) hlv.2) co_X3_lengthOf in_X3 mn_X2_48 im_X3_lengthOf se_X3_lengthOf rfl rfl ar_X3_lengthOf ⟨by decide, by decide, by decide, by decide⟩ rfl (Nat.le_of_ble_eq_true rfl) dX2_tryEarly_38 (a_dR ?_) a_nR
        rw [hwg]
        refine a_istore (L' := [(0, .ref (ad 13)), (1, .ref (ad 1)), (2, ii_v ((r : Nat) : Int)), (3, ii_v now), (4, ii_v ((b : Nat) : Int)), (5, .ref (ad (200 + b))), (6, ii_v (pl_len v (f (200 + b) 3) (f (200 + b) 4) (TS b) (f (200 + b) 6) (f (200 + b) 7)))]) C dX2_tryEarly_41 (by decide) rfl ?_
        refine a_iconst C dX2_tryEarly_43 ?_
        refine a_istore (L' := [(0, .ref (ad 13)), (1, .ref (ad 1)), (2, ii_v ((r : Nat) : Int)), (3, ii_v now), (4, ii_v ((b : Nat) : Int)), (5, .ref (ad (200 + b))), (6, ii_v (pl_len v (f (200 + b) 3) (f (200 + b) 4) (TS b) (f (200 + b) 6) (f (200 + b) 7))), (7, ii_v 0)]) C dX2_tryEarly_44 (by decide) rfl ?_
        have loop46 : ∀ (NN46 : Nat) (i : Nat) (g : Nat → Nat → Int), (TS b).length + 1 - i < NN46 → (i ≤ (TS b).length + 1) → (∀ o2, o2 ≠ 10 → o2 ≠ 11 → o2 ≠ 12 → o2 ≠ 13 → o2 ≠ 14 → o2 ≠ 24 → g o2 = f o2) → (pe_at g (pe_i v (f (200 + b)) (TS b) r now b i (pe_b v (fun b => f (200 + b)) TS r now b (-1, f 13 4, f 13 5, 1000000)))) → (pe_bd g) → ab_W p l e (ab_rm 9 0 0) s m args below meth c E base 10 (ab_Q below E base Post args s 0 0) ab_x4 ad (g, w) 0 0 46 [(0, .ref (ad 13)), (1, .ref (ad 1)), (2, ii_v ((r : Nat) : Int)), (3, ii_v now), (4, ii_v ((b : Nat) : Int)), (5, .ref (ad (200 + b))), (6, ii_v (pl_len v (f (200 + b) 3) (f (200 + b) 4) (TS b) (f (200 + b) 6) (f (200 + b) 7))), (7, ii_v ((i : Nat) : Int))] [] := by
          intro NN46
          induction NN46 with
          | zero => intro i g hNN; exact absurd hNN (Nat.not_lt_zero _)
          | succ NN46 ih46 =>
            intro i g hNN hin hfr hst hbd
            have hDg : wd_C g w v TS := wd_same hD (fun o2 h => hfr o2 (by omega) (by omega) (by omega) (by omega) (by omega) (by omega))
            have hwg : g (200 + b) = f (200 + b) := hfr _ (by omega) (by omega) (by omega) (by omega) (by omega) (by omega)
            refine a_iload C dX2_tryEarly_46 rfl ?_
            refine a_aload C dX2_tryEarly_48 rfl ?_
            refine a_getN (ci := 2) (i := 5) (v := .ref (ad (200 + b + 10))) C iw_X1 rfl (by decide) rfl fn_X2_45 (ob_bus hb h4) rfl dX2_tryEarly_50 ?_
            refine a_getN (ci := 8) (i := 1) (v := ii_v (g (200 + b + 10) 1)) C iw_X7 rfl (by decide) rfl fn_X2_54 (ob_btour hb h4) rfl dX2_tryEarly_53 ?_
            rw [(hDg.2.2.2.2.1 b hb).1]
            refine a_icmp_gt (tgt := 163) C dX2_tryEarly_56 rfl (by unfold ii_B; omega) (by unfold ii_B; omega) (fun h56 => ?_) (fun h56 => ?_)
            · skip
              refine a_iinc (L' := [(0, .ref (ad 13)), (1, .ref (ad 1)), (2, ii_v ((r : Nat) : Int)), (3, ii_v now), (4, ii_v (((b : Nat) : Int) + 1)), (5, .ref (ad (200 + b))), (6, ii_v (pl_len v (f (200 + b) 3) (f (200 + b) 4) (TS b) (f (200 + b) 6) (f (200 + b) 7))), (7, ii_v ((i : Nat) : Int))]) C dX2_tryEarly_163 rfl (by decide) rfl ?_
              refine a_goto (tgt := 7) C dX2_tryEarly_166 rfl ?_
              refine a_pick [0, 1, 2, 3, 4] (L2 := [(0, .ref (ad 13)), (1, .ref (ad 1)), (2, ii_v ((r : Nat) : Int)), (3, ii_v now), (4, ii_v (((b : Nat) : Int) + 1))]) rfl ?_
              exact ih7 (b + 1) g (by omega) (by omega) hfr (by rw [show i = (TS b).length + 1 by omega] at hst; exact hst) hbd
            · skip
              refine a_iload C dX2_tryEarly_59 rfl ?_
              refine a_istore (L' := [(0, .ref (ad 13)), (1, .ref (ad 1)), (2, ii_v ((r : Nat) : Int)), (3, ii_v now), (4, ii_v ((b : Nat) : Int)), (5, .ref (ad (200 + b))), (6, ii_v (pl_len v (f (200 + b) 3) (f (200 + b) 4) (TS b) (f (200 + b) 6) (f (200 + b) 7))), (7, ii_v ((i : Nat) : Int)), (8, ii_v ((i : Nat) : Int))]) C dX2_tryEarly_61 (by decide) rfl ?_
              have loop63 : ∀ (NN63 : Nat) (d : Nat) (g : Nat → Nat → Int), (TS b).length + 1 - i - d < NN63 → (i + d ≤ (TS b).length + 1) → (∀ o2, o2 ≠ 10 → o2 ≠ 11 → o2 ≠ 12 → o2 ≠ 13 → o2 ≠ 14 → o2 ≠ 24 → g o2 = f o2) → (pe_at g (pe_j v (f (200 + b)) (TS b) r now b i d (pe_i v (f (200 + b)) (TS b) r now b i (pe_b v (fun b => f (200 + b)) TS r now b (-1, f 13 4, f 13 5, 1000000))))) → (pe_bd g) → ab_W p l e (ab_rm 9 0 0) s m args below meth c E base 10 (ab_Q below E base Post args s 0 0) ab_x4 ad (g, w) 0 0 63 [(0, .ref (ad 13)), (1, .ref (ad 1)), (2, ii_v ((r : Nat) : Int)), (3, ii_v now), (4, ii_v ((b : Nat) : Int)), (5, .ref (ad (200 + b))), (6, ii_v (pl_len v (f (200 + b) 3) (f (200 + b) 4) (TS b) (f (200 + b) 6) (f (200 + b) 7))), (7, ii_v ((i : Nat) : Int)), (8, ii_v ((i + d : Nat) : Int))] [] := by
                intro NN63
                induction NN63 with
                | zero => intro d g hNN; exact absurd hNN (Nat.not_lt_zero _)
                | succ NN63 ih63 =>
                  intro d g hNN hdn hfr hst hbd
                  have hDg : wd_C g w v TS := wd_same hD (fun o2 h => hfr o2 (by omega) (by omega) (by omega) (by omega) (by omega) (by omega))
                  have hwg : g (200 + b) = f (200 + b) := hfr _ (by omega) (by omega) (by omega) (by omega) (by omega) (by omega)
                  refine a_iload C dX2_tryEarly_63 rfl ?_
                  refine a_aload C dX2_tryEarly_65 rfl ?_
                  refine a_getN (ci := 2) (i := 5) (v := .ref (ad (200 + b + 10))) C iw_X1 rfl (by decide) rfl fn_X2_45 (ob_bus hb h4) rfl dX2_tryEarly_67 ?_
                  refine a_getN (ci := 8) (i := 1) (v := ii_v (g (200 + b + 10) 1)) C iw_X7 rfl (by decide) rfl fn_X2_54 (ob_btour hb h4) rfl dX2_tryEarly_70 ?_
                  rw [(hDg.2.2.2.2.1 b hb).1]
                  refine a_icmp_gt (tgt := 157) C dX2_tryEarly_73 rfl (by unfold ii_B; omega) (by unfold ii_B; omega) (fun h73 => ?_) (fun h73 => ?_)
                  · skip
                    refine a_iinc (L' := [(0, .ref (ad 13)), (1, .ref (ad 1)), (2, ii_v ((r : Nat) : Int)), (3, ii_v now), (4, ii_v ((b : Nat) : Int)), (5, .ref (ad (200 + b))), (6, ii_v (pl_len v (f (200 + b) 3) (f (200 + b) 4) (TS b) (f (200 + b) 6) (f (200 + b) 7))), (7, ii_v (((i : Nat) : Int) + 1)), (8, ii_v ((i + d : Nat) : Int))]) C dX2_tryEarly_157 rfl (by decide) rfl ?_
                    refine a_goto (tgt := 46) C dX2_tryEarly_160 rfl ?_
                    refine a_pick [0, 1, 2, 3, 4, 5, 6, 7] (L2 := [(0, .ref (ad 13)), (1, .ref (ad 1)), (2, ii_v ((r : Nat) : Int)), (3, ii_v now), (4, ii_v ((b : Nat) : Int)), (5, .ref (ad (200 + b))), (6, ii_v (pl_len v (f (200 + b) 3) (f (200 + b) 4) (TS b) (f (200 + b) 6) (f (200 + b) 7))), (7, ii_v (((i : Nat) : Int) + 1))]) rfl ?_
                    exact ih46 (i + 1) g (by omega) (by omega) hfr (by rw [show d = (TS b).length + 1 - i by omega] at hst; exact hst) hbd
                  · skip
                    refine a_aload_n C dX2_tryEarly_76 rfl ?_
                    refine a_aload C dX2_tryEarly_77 rfl ?_
                    refine a_getN (ci := 2) (i := 5) (v := .ref (ad (200 + b + 10))) C iw_X1 rfl (by decide) rfl fn_X2_45 (ob_bus hb h4) rfl dX2_tryEarly_79 ?_
                    refine a_iload_n C dX2_tryEarly_82 rfl ?_
                    refine a_iload C dX2_tryEarly_83 rfl ?_
                    refine a_iload C dX2_tryEarly_85 rfl ?_
                    refine a_callV (o := 13) (As := [.ref (ad (200 + b + 10)), ii_v ((r : Nat) : Int), ii_v ((i : Nat) : Int), ii_v ((i + d : Nat) : Int)]) C (c_lay hl g w (ob_btour hb h4) (ar_btour hb h4) (hDg.2.2.2.2.1 b hb) (by omega) hlv.1 r i (i + d) (by omega) (by omega) (by omega)) co_X2_lay in_X2 ml_X2_57 im_X2_lay se_X2_lay rfl rfl ar_X2_lay ⟨by decide, by decide, by decide, by decide⟩ rfl (Nat.le_of_ble_eq_true rfl) dX2_tryEarly_87 (a_dF ?_) a_nF
                    intro vg2 g2 hvg2
                    obtain ⟨rfl, hsg2, hfg2⟩ := hvg2
                    have hfrg2 : ∀ o2, o2 ≠ 10 → o2 ≠ 11 → o2 ≠ 12 → o2 ≠ 13 → o2 ≠ 14 → o2 ≠ 24 → g2 o2 = f o2 := fun o2 h1 h2 h3 h4 h5 h6 => (hfg2 o2 h5 h6).trans (hfr o2 h1 h2 h3 h4 h5 h6)
                    have hDg2 : wd_C g2 w v TS := wd_same hD (fun o2 h => hfrg2 o2 (by omega) (by omega) (by omega) (by omega) (by omega) (by omega))
                    have hwg2 : g2 (200 + b) = f (200 + b) := hfrg2 _ (by omega) (by omega) (by omega) (by omega) (by omega) (by omega)
                    have hqg2 : ∀ j, j < (lay_f r i (i + d) (TS b) 0).length → (lay_f r i (i + d) (TS b) 0).getD j 0 / 2 ≤ w.2.1 := lay_ok hrn hlv.2
                    have hlg2 : (lay_f r i (i + d) (TS b) 0).length = (TS b).length + 2 := lay_length (by omega) (by omega) 0 (by omega)
                    have h13 : g2 13 = g 13 := hfg2 13 (by decide) (by decide)
                    obtain ⟨q3, q4, q5, q6⟩ := id hst
                    obtain ⟨r3, r6⟩ := id hbd
                    have hL0 := len_b hB3 hB4 (fun q h => (hD.2.2.1.1 q h).2.2) (TS b) (f (200 + b) 6) (f (200 + b) 7) hlv.2 hB6 hB7
                    refine a_aload_n C dX2_tryEarly_90 rfl ?_
                    refine a_callV (o := 13) (As := []) C (c_isFound hl g2 w (by rw [h13]; exact r3)) co_X2_isFound in_X2 ml_X2_81 im_X2_isFound se_X2_isFound rfl rfl ar_X2_isFound ⟨by decide, by decide, by decide, by decide⟩ rfl (Nat.le_of_ble_eq_true rfl) dX2_tryEarly_91 (a_dR ?_) a_nR
                    rw [h13]
                    refine a_bif_eq (tgt := 107) C dX2_tryEarly_94 rfl (fun h94 => ?_) (fun h94 => ?_)
                    · skip
                      refine a_ldc (v := 1000000) C dX2_tryEarly_107 kt_X2_85 ?_
                      refine a_top (w := ii_v (if 0 ≤ g 13 3 then (pl_len v (f (200 + b) 3) (f (200 + b) 4) (TS b) (f (200 + b) 6) (f (200 + b) 7)) + g 13 6 else 1000000)) (by first | rw [if_pos (by assumption)] | rw [if_neg (by assumption)]) ?_
                      refine a_istore (L' := [(0, .ref (ad 13)), (1, .ref (ad 1)), (2, ii_v ((r : Nat) : Int)), (3, ii_v now), (4, ii_v ((b : Nat) : Int)), (5, .ref (ad (200 + b))), (6, ii_v (pl_len v (f (200 + b) 3) (f (200 + b) 4) (TS b) (f (200 + b) 6) (f (200 + b) 7))), (7, ii_v ((i : Nat) : Int)), (8, ii_v ((i + d : Nat) : Int)), (9, ii_v (if 0 ≤ g 13 3 then (pl_len v (f (200 + b) 3) (f (200 + b) 4) (TS b) (f (200 + b) 6) (f (200 + b) 7)) + g 13 6 else 1000000))]) C dX2_tryEarly_109 (by decide) rfl ?_
                      refine a_aload_n C dX2_tryEarly_111 rfl ?_
                      refine a_get (ci := 3) (i := 1) (v := .ref (ad 11)) C iw_X2 rfl (by decide) rfl fl_X2_22 rfl rfl dX2_tryEarly_112 ?_
                      refine a_aload C dX2_tryEarly_115 rfl ?_
                      refine a_aload_n C dX2_tryEarly_117 rfl ?_
                      refine a_get (ci := 3) (i := 2) (v := .ref (ad 14)) C iw_X2 rfl (by decide) rfl fl_X2_12 rfl rfl dX2_tryEarly_118 ?_
                      refine a_iload_n C dX2_tryEarly_121 rfl ?_
                      refine a_iload C dX2_tryEarly_122 rfl ?_
                      refine a_callVN (o := 11) (As := [.ref (ad (200 + b)), .ref (ad 14), ii_v now, ii_v (if 0 ≤ g 13 3 then (pl_len v (f (200 + b) 3) (f (200 + b) 4) (TS b) (f (200 + b) 6) (f (200 + b) 7)) + g 13 6 else 1000000)]) C (c_follow hl g2 w hr hDg2.2.2.1 (ob_bus hb h4) (hDg2.2.2.2.1 b hb) rfl rfl hsg2 (lay_ok hrn hlv.2) now hnow (if 0 ≤ g 13 3 then (pl_len v (f (200 + b) 3) (f (200 + b) 4) (TS b) (f (200 + b) 6) (f (200 + b) 7)) + g 13 6 else 1000000) (by split <;> omega) (ls_pr (lay_f r i (i + d) (TS b) 0))) co_X8_follow in_X8 mn_X2_86 im_X8_follow se_X8_follow rfl rfl ar_X8_follow ⟨by decide, by decide, by decide, by decide⟩ rfl (Nat.le_of_ble_eq_true rfl) dX2_tryEarly_124 (a_dF ?_) a_nF
                      intro vg3 g3 hvg3
                      obtain ⟨hw1, hw2, hfg3⟩ := hvg3
                      rw [hwg2] at hw2
                      have hfrg3 : ∀ o2, o2 ≠ 10 → o2 ≠ 11 → o2 ≠ 12 → o2 ≠ 13 → o2 ≠ 14 → o2 ≠ 24 → g3 o2 = f o2 := fun o2 h1 h2 h3 h4 h5 h6 => (hfg3 o2 h2 h3).trans (hfrg2 o2 h1 h2 h3 h4 h5 h6)
                      have hDg3 : wd_C g3 w v TS := wd_same hD (fun o2 h => hfrg3 o2 (by omega) (by omega) (by omega) (by omega) (by omega) (by omega))
                      have hwg3 : g3 (200 + b) = f (200 + b) := hfrg3 _ (by omega) (by omega) (by omega) (by omega) (by omega) (by omega)
                      have h13g3 : g3 13 = g 13 := (hfg3 13 (by decide) (by decide)).trans h13
                      obtain ⟨rv, hrv, hrb, hrn1, hrl⟩ : ∃ rv : Int, vg3 = some (ii_v rv) ∧ ii_B rv ∧ (rv = -1 ↔ (lay_f r i (i + d) (TS b) 0).length ≤ 6 ∧ (wk_f v (lay_f r i (i + d) (TS b) 0) (f (200 + b) 1) (f (200 + b) 8) (if 0 ≤ g 13 3 then (pl_len v (f (200 + b) 3) (f (200 + b) 4) (TS b) (f (200 + b) 6) (f (200 + b) 7)) + g 13 6 else 1000000) (f (200 + b) 3) (f (200 + b) 4) now (lay_f r i (i + d) (TS b) 0) 0 (f (200 + b) 6) (f (200 + b) 7) 0 (f (200 + b) 9) []).1 = -1) ∧ ((lay_f r i (i + d) (TS b) 0).length ≤ 6 → g3 11 6 = (wk_f v (lay_f r i (i + d) (TS b) 0) (f (200 + b) 1) (f (200 + b) 8) (if 0 ≤ g 13 3 then (pl_len v (f (200 + b) 3) (f (200 + b) 4) (TS b) (f (200 + b) 6) (f (200 + b) 7)) + g 13 6 else 1000000) (f (200 + b) 3) (f (200 + b) 4) now (lay_f r i (i + d) (TS b) 0) 0 (f (200 + b) 6) (f (200 + b) 7) 0 (f (200 + b) 9) []).2) := wk_out hw1 hw2
                      subst hrv
                      have hWb := wk_b hB3 hB4 (fun q h => (hD.2.2.1.1 q h).2.2) (lay_f r i (i + d) (TS b) 0) (f (200 + b) 1) (f (200 + b) 8) (if 0 ≤ g 13 3 then (pl_len v (f (200 + b) 3) (f (200 + b) 4) (TS b) (f (200 + b) 6) (f (200 + b) 7)) + g 13 6 else 1000000) now (lay_f r i (i + d) (TS b) 0) 0 (f (200 + b) 6) (f (200 + b) 7) 0 (f (200 + b) 9) [] (lay_ok hrn hlv.2) hB6 hB7 (by omega)
                      refine a_iconst C dX2_tryEarly_127 ?_
                      refine a_icmp_ne (tgt := 151) C dX2_tryEarly_128 rfl hrb (by unfold ii_B; omega) (fun h128 => ?_) (fun h128 => ?_)
                      · skip
                        have hno : ¬ ((lay_f r i (i + d) (TS b) 0).length ≤ 6 ∧ (wk_f v (lay_f r i (i + d) (TS b) 0) (f (200 + b) 1) (f (200 + b) 8) (if 0 ≤ g 13 3 then (pl_len v (f (200 + b) 3) (f (200 + b) 4) (TS b) (f (200 + b) 6) (f (200 + b) 7)) + g 13 6 else 1000000) (f (200 + b) 3) (f (200 + b) 4) now (lay_f r i (i + d) (TS b) 0) 0 (f (200 + b) 6) (f (200 + b) 7) 0 (f (200 + b) 9) []).1 = -1) := fun q => h128 (hrn1.mpr q)
                        refine a_iinc (L' := [(0, .ref (ad 13)), (1, .ref (ad 1)), (2, ii_v ((r : Nat) : Int)), (3, ii_v now), (4, ii_v ((b : Nat) : Int)), (5, .ref (ad (200 + b))), (6, ii_v (pl_len v (f (200 + b) 3) (f (200 + b) 4) (TS b) (f (200 + b) 6) (f (200 + b) 7))), (7, ii_v ((i : Nat) : Int)), (8, ii_v (((i + d : Nat) : Int) + 1)), (9, ii_v (if 0 ≤ g 13 3 then (pl_len v (f (200 + b) 3) (f (200 + b) 4) (TS b) (f (200 + b) 6) (f (200 + b) 7)) + g 13 6 else 1000000))]) C dX2_tryEarly_151 rfl (by decide) rfl ?_
                        refine a_goto (tgt := 63) C dX2_tryEarly_154 rfl ?_
                        refine a_pick [0, 1, 2, 3, 4, 5, 6, 7, 8] (L2 := [(0, .ref (ad 13)), (1, .ref (ad 1)), (2, ii_v ((r : Nat) : Int)), (3, ii_v now), (4, ii_v ((b : Nat) : Int)), (5, .ref (ad (200 + b))), (6, ii_v (pl_len v (f (200 + b) 3) (f (200 + b) 4) (TS b) (f (200 + b) 6) (f (200 + b) 7))), (7, ii_v ((i : Nat) : Int)), (8, ii_v (((i + d : Nat) : Int) + 1))]) rfl ?_
                        exact ih63 (d + 1) g3 (by omega) (by omega) hfrg3 (pe_no hst hno h13g3) (pe_bd_same hbd h13g3)
                      · skip
                        have hye : (lay_f r i (i + d) (TS b) 0).length ≤ 6 ∧ (wk_f v (lay_f r i (i + d) (TS b) 0) (f (200 + b) 1) (f (200 + b) 8) (if 0 ≤ g 13 3 then (pl_len v (f (200 + b) 3) (f (200 + b) 4) (TS b) (f (200 + b) 6) (f (200 + b) 7)) + g 13 6 else 1000000) (f (200 + b) 3) (f (200 + b) 4) now (lay_f r i (i + d) (TS b) 0) 0 (f (200 + b) 6) (f (200 + b) 7) 0 (f (200 + b) 9) []).1 = -1 := hrn1.mp h128
                        refine a_aload_n C dX2_tryEarly_131 rfl ?_
                        refine a_iload C dX2_tryEarly_132 rfl ?_
                        refine a_iload C dX2_tryEarly_134 rfl ?_
                        refine a_iload C dX2_tryEarly_136 rfl ?_
                        refine a_aload_n C dX2_tryEarly_138 rfl ?_
                        refine a_get (ci := 3) (i := 1) (v := .ref (ad 11)) C iw_X2 rfl (by decide) rfl fl_X2_22 rfl rfl dX2_tryEarly_139 ?_
                        refine a_getN (ci := 9) (i := 6) (v := ii_v (g3 11 6)) C iw_X8 rfl (by decide) rfl fn_X2_92 rfl rfl dX2_tryEarly_142 ?_
                        rw [hrl (by omega)]
                        refine a_iload C dX2_tryEarly_145 rfl ?_
                        refine a_isub C dX2_tryEarly_147 ?_
                        refine a_callV (o := 13) (As := [ii_v ((b : Nat) : Int), ii_v ((i : Nat) : Int), ii_v ((i + d : Nat) : Int), ii_v (((wk_f v (lay_f r i (i + d) (TS b) 0) (f (200 + b) 1) (f (200 + b) 8) (if 0 ≤ g 13 3 then (pl_len v (f (200 + b) 3) (f (200 + b) 4) (TS b) (f (200 + b) 6) (f (200 + b) 7)) + g 13 6 else 1000000) (f (200 + b) 3) (f (200 + b) 4) now (lay_f r i (i + d) (TS b) 0) 0 (f (200 + b) 6) (f (200 + b) 7) 0 (f (200 + b) 9) []).2) - (pl_len v (f (200 + b) 3) (f (200 + b) 4) (TS b) (f (200 + b) 6) (f (200 + b) 7)))]) C (c_keep hl g3 w ((b : Nat) : Int) ((i : Nat) : Int) ((i + d : Nat) : Int) (((wk_f v (lay_f r i (i + d) (TS b) 0) (f (200 + b) 1) (f (200 + b) 8) (if 0 ≤ g 13 3 then (pl_len v (f (200 + b) 3) (f (200 + b) 4) (TS b) (f (200 + b) 6) (f (200 + b) 7)) + g 13 6 else 1000000) (f (200 + b) 3) (f (200 + b) 4) now (lay_f r i (i + d) (TS b) 0) 0 (f (200 + b) 6) (f (200 + b) 7) 0 (f (200 + b) 9) []).2) - (pl_len v (f (200 + b) 3) (f (200 + b) 4) (TS b) (f (200 + b) 6) (f (200 + b) 7)))) co_X2_keep in_X2 ml_X2_77 im_X2_keep se_X2_keep rfl rfl ar_X2_keep ⟨by decide, by decide, by decide, by decide⟩ rfl (Nat.le_of_ble_eq_true rfl) dX2_tryEarly_148 (a_dV ?_) a_nV
                        obtain ⟨g4, eg4⟩ : ∃ F : Nat → Nat → Int, F = ii_up (ii_up (ii_up (ii_up g3 13 3 ((b : Nat) : Int)) 13 4 ((i : Nat) : Int)) 13 5 ((i + d : Nat) : Int)) 13 6 (((wk_f v (lay_f r i (i + d) (TS b) 0) (f (200 + b) 1) (f (200 + b) 8) (if 0 ≤ g 13 3 then (pl_len v (f (200 + b) 3) (f (200 + b) 4) (TS b) (f (200 + b) 6) (f (200 + b) 7)) + g 13 6 else 1000000) (f (200 + b) 3) (f (200 + b) 4) now (lay_f r i (i + d) (TS b) 0) 0 (f (200 + b) 6) (f (200 + b) 7) 0 (f (200 + b) 9) []).2) - (pl_len v (f (200 + b) 3) (f (200 + b) 4) (TS b) (f (200 + b) 6) (f (200 + b) 7))) := ⟨_, rfl⟩
                        rw [← eg4]
                        have hfrg4 : ∀ o2, o2 ≠ 10 → o2 ≠ 11 → o2 ≠ 12 → o2 ≠ 13 → o2 ≠ 14 → o2 ≠ 24 → g4 o2 = f o2 := fun o2 h1 h2 h3 h4 h5 h6 => by rw [eg4, ii_up_row _ _ h4, ii_up_row _ _ h4, ii_up_row _ _ h4, ii_up_row _ _ h4]; exact hfrg3 o2 h1 h2 h3 h4 h5 h6
                        refine a_iinc (L' := [(0, .ref (ad 13)), (1, .ref (ad 1)), (2, ii_v ((r : Nat) : Int)), (3, ii_v now), (4, ii_v ((b : Nat) : Int)), (5, .ref (ad (200 + b))), (6, ii_v (pl_len v (f (200 + b) 3) (f (200 + b) 4) (TS b) (f (200 + b) 6) (f (200 + b) 7))), (7, ii_v ((i : Nat) : Int)), (8, ii_v (((i + d : Nat) : Int) + 1)), (9, ii_v (if 0 ≤ g 13 3 then (pl_len v (f (200 + b) 3) (f (200 + b) 4) (TS b) (f (200 + b) 6) (f (200 + b) 7)) + g 13 6 else 1000000))]) C dX2_tryEarly_151 rfl (by decide) rfl ?_
                        refine a_goto (tgt := 63) C dX2_tryEarly_154 rfl ?_
                        refine a_pick [0, 1, 2, 3, 4, 5, 6, 7, 8] (L2 := [(0, .ref (ad 13)), (1, .ref (ad 1)), (2, ii_v ((r : Nat) : Int)), (3, ii_v now), (4, ii_v ((b : Nat) : Int)), (5, .ref (ad (200 + b))), (6, ii_v (pl_len v (f (200 + b) 3) (f (200 + b) 4) (TS b) (f (200 + b) 6) (f (200 + b) 7))), (7, ii_v ((i : Nat) : Int)), (8, ii_v (((i + d : Nat) : Int) + 1))]) rfl ?_
                        exact ih63 (d + 1) g4 (by omega) (by omega) hfrg4 (pe_yes hst hye eg4 h13g3) (pe_b2 (b := b) hst hbd (by omega) (fun bound => by have := wk_b hB3 hB4 (fun q h => (hD.2.2.1.1 q h).2.2) (lay_f r i (i + d) (TS b) 0) (f (200 + b) 1) (f (200 + b) 8) bound now (lay_f r i (i + d) (TS b) 0) 0 (f (200 + b) 6) (f (200 + b) 7) 0 (f (200 + b) 9) [] (lay_ok hrn hlv.2) hB6 hB7 (by omega); omega) (pe_yes hst hye eg4 h13g3))
                    · skip
                      refine a_iload C dX2_tryEarly_97 rfl ?_
                      refine a_aload_n C dX2_tryEarly_99 rfl ?_
                      refine a_get (ci := 3) (i := 6) (v := ii_v (g2 13 6)) C iw_X2 rfl (by decide) rfl fl_X2_74 rfl rfl dX2_tryEarly_100 ?_
                      refine a_top (w := ii_v (g 13 6)) (congrArg (fun q => ii_v q) (congrFun h13 6)) ?_
                      refine a_iadd C dX2_tryEarly_103 ?_
                      refine a_goto (tgt := 109) C dX2_tryEarly_104 rfl ?_
                      refine a_top (w := ii_v (if 0 ≤ g 13 3 then (pl_len v (f (200 + b) 3) (f (200 + b) 4) (TS b) (f (200 + b) 6) (f (200 + b) 7)) + g 13 6 else 1000000)) (by first | rw [if_pos (by assumption)] | rw [if_neg (by assumption)]) ?_
                      refine a_istore (L' := [(0, .ref (ad 13)), (1, .ref (ad 1)), (2, ii_v ((r : Nat) : Int)), (3, ii_v now), (4, ii_v ((b : Nat) : Int)), (5, .ref (ad (200 + b))), (6, ii_v (pl_len v (f (200 + b) 3) (f (200 + b) 4) (TS b) (f (200 + b) 6) (f (200 + b) 7))), (7, ii_v ((i : Nat) : Int)), (8, ii_v ((i + d : Nat) : Int)), (9, ii_v (if 0 ≤ g 13 3 then (pl_len v (f (200 + b) 3) (f (200 + b) 4) (TS b) (f (200 + b) 6) (f (200 + b) 7)) + g 13 6 else 1000000))]) C dX2_tryEarly_109 (by decide) rfl ?_
                      refine a_aload_n C dX2_tryEarly_111 rfl ?_
                      refine a_get (ci := 3) (i := 1) (v := .ref (ad 11)) C iw_X2 rfl (by decide) rfl fl_X2_22 rfl rfl dX2_tryEarly_112 ?_
                      refine a_aload C dX2_tryEarly_115 rfl ?_
                      refine a_aload_n C dX2_tryEarly_117 rfl ?_
                      refine a_get (ci := 3) (i := 2) (v := .ref (ad 14)) C iw_X2 rfl (by decide) rfl fl_X2_12 rfl rfl dX2_tryEarly_118 ?_
                      refine a_iload_n C dX2_tryEarly_121 rfl ?_
                      refine a_iload C dX2_tryEarly_122 rfl ?_
                      refine a_callVN (o := 11) (As := [.ref (ad (200 + b)), .ref (ad 14), ii_v now, ii_v (if 0 ≤ g 13 3 then (pl_len v (f (200 + b) 3) (f (200 + b) 4) (TS b) (f (200 + b) 6) (f (200 + b) 7)) + g 13 6 else 1000000)]) C (c_follow hl g2 w hr hDg2.2.2.1 (ob_bus hb h4) (hDg2.2.2.2.1 b hb) rfl rfl hsg2 (lay_ok hrn hlv.2) now hnow (if 0 ≤ g 13 3 then (pl_len v (f (200 + b) 3) (f (200 + b) 4) (TS b) (f (200 + b) 6) (f (200 + b) 7)) + g 13 6 else 1000000) (by split <;> omega) (ls_pr (lay_f r i (i + d) (TS b) 0))) co_X8_follow in_X8 mn_X2_86 im_X8_follow se_X8_follow rfl rfl ar_X8_follow ⟨by decide, by decide, by decide, by decide⟩ rfl (Nat.le_of_ble_eq_true rfl) dX2_tryEarly_124 (a_dF ?_) a_nF
                      intro vg5 g5 hvg5
                      obtain ⟨hw1, hw2, hfg5⟩ := hvg5
                      rw [hwg2] at hw2
                      have hfrg5 : ∀ o2, o2 ≠ 10 → o2 ≠ 11 → o2 ≠ 12 → o2 ≠ 13 → o2 ≠ 14 → o2 ≠ 24 → g5 o2 = f o2 := fun o2 h1 h2 h3 h4 h5 h6 => (hfg5 o2 h2 h3).trans (hfrg2 o2 h1 h2 h3 h4 h5 h6)
                      have hDg5 : wd_C g5 w v TS := wd_same hD (fun o2 h => hfrg5 o2 (by omega) (by omega) (by omega) (by omega) (by omega) (by omega))
                      have hwg5 : g5 (200 + b) = f (200 + b) := hfrg5 _ (by omega) (by omega) (by omega) (by omega) (by omega) (by omega)
                      have h13g5 : g5 13 = g 13 := (hfg5 13 (by decide) (by decide)).trans h13
                      obtain ⟨rv, hrv, hrb, hrn1, hrl⟩ : ∃ rv : Int, vg5 = some (ii_v rv) ∧ ii_B rv ∧ (rv = -1 ↔ (lay_f r i (i + d) (TS b) 0).length ≤ 6 ∧ (wk_f v (lay_f r i (i + d) (TS b) 0) (f (200 + b) 1) (f (200 + b) 8) (if 0 ≤ g 13 3 then (pl_len v (f (200 + b) 3) (f (200 + b) 4) (TS b) (f (200 + b) 6) (f (200 + b) 7)) + g 13 6 else 1000000) (f (200 + b) 3) (f (200 + b) 4) now (lay_f r i (i + d) (TS b) 0) 0 (f (200 + b) 6) (f (200 + b) 7) 0 (f (200 + b) 9) []).1 = -1) ∧ ((lay_f r i (i + d) (TS b) 0).length ≤ 6 → g5 11 6 = (wk_f v (lay_f r i (i + d) (TS b) 0) (f (200 + b) 1) (f (200 + b) 8) (if 0 ≤ g 13 3 then (pl_len v (f (200 + b) 3) (f (200 + b) 4) (TS b) (f (200 + b) 6) (f (200 + b) 7)) + g 13 6 else 1000000) (f (200 + b) 3) (f (200 + b) 4) now (lay_f r i (i + d) (TS b) 0) 0 (f (200 + b) 6) (f (200 + b) 7) 0 (f (200 + b) 9) []).2) := wk_out hw1 hw2
                      subst hrv
                      have hWb := wk_b hB3 hB4 (fun q h => (hD.2.2.1.1 q h).2.2) (lay_f r i (i + d) (TS b) 0) (f (200 + b) 1) (f (200 + b) 8) (if 0 ≤ g 13 3 then (pl_len v (f (200 + b) 3) (f (200 + b) 4) (TS b) (f (200 + b) 6) (f (200 + b) 7)) + g 13 6 else 1000000) now (lay_f r i (i + d) (TS b) 0) 0 (f (200 + b) 6) (f (200 + b) 7) 0 (f (200 + b) 9) [] (lay_ok hrn hlv.2) hB6 hB7 (by omega)
                      refine a_iconst C dX2_tryEarly_127 ?_
                      refine a_icmp_ne (tgt := 151) C dX2_tryEarly_128 rfl hrb (by unfold ii_B; omega) (fun h128 => ?_) (fun h128 => ?_)
                      · skip
                        have hno : ¬ ((lay_f r i (i + d) (TS b) 0).length ≤ 6 ∧ (wk_f v (lay_f r i (i + d) (TS b) 0) (f (200 + b) 1) (f (200 + b) 8) (if 0 ≤ g 13 3 then (pl_len v (f (200 + b) 3) (f (200 + b) 4) (TS b) (f (200 + b) 6) (f (200 + b) 7)) + g 13 6 else 1000000) (f (200 + b) 3) (f (200 + b) 4) now (lay_f r i (i + d) (TS b) 0) 0 (f (200 + b) 6) (f (200 + b) 7) 0 (f (200 + b) 9) []).1 = -1) := fun q => h128 (hrn1.mpr q)
                        refine a_iinc (L' := [(0, .ref (ad 13)), (1, .ref (ad 1)), (2, ii_v ((r : Nat) : Int)), (3, ii_v now), (4, ii_v ((b : Nat) : Int)), (5, .ref (ad (200 + b))), (6, ii_v (pl_len v (f (200 + b) 3) (f (200 + b) 4) (TS b) (f (200 + b) 6) (f (200 + b) 7))), (7, ii_v ((i : Nat) : Int)), (8, ii_v (((i + d : Nat) : Int) + 1)), (9, ii_v (if 0 ≤ g 13 3 then (pl_len v (f (200 + b) 3) (f (200 + b) 4) (TS b) (f (200 + b) 6) (f (200 + b) 7)) + g 13 6 else 1000000))]) C dX2_tryEarly_151 rfl (by decide) rfl ?_
                        refine a_goto (tgt := 63) C dX2_tryEarly_154 rfl ?_
                        refine a_pick [0, 1, 2, 3, 4, 5, 6, 7, 8] (L2 := [(0, .ref (ad 13)), (1, .ref (ad 1)), (2, ii_v ((r : Nat) : Int)), (3, ii_v now), (4, ii_v ((b : Nat) : Int)), (5, .ref (ad (200 + b))), (6, ii_v (pl_len v (f (200 + b) 3) (f (200 + b) 4) (TS b) (f (200 + b) 6) (f (200 + b) 7))), (7, ii_v ((i : Nat) : Int)), (8, ii_v (((i + d : Nat) : Int) + 1))]) rfl ?_
                        exact ih63 (d + 1) g5 (by omega) (by omega) hfrg5 (pe_no hst hno h13g5) (pe_bd_same hbd h13g5)
                      · skip
                        have hye : (lay_f r i (i + d) (TS b) 0).length ≤ 6 ∧ (wk_f v (lay_f r i (i + d) (TS b) 0) (f (200 + b) 1) (f (200 + b) 8) (if 0 ≤ g 13 3 then (pl_len v (f (200 + b) 3) (f (200 + b) 4) (TS b) (f (200 + b) 6) (f (200 + b) 7)) + g 13 6 else 1000000) (f (200 + b) 3) (f (200 + b) 4) now (lay_f r i (i + d) (TS b) 0) 0 (f (200 + b) 6) (f (200 + b) 7) 0 (f (200 + b) 9) []).1 = -1 := hrn1.mp h128
                        refine a_aload_n C dX2_tryEarly_131 rfl ?_
                        refine a_iload C dX2_tryEarly_132 rfl ?_
                        refine a_iload C dX2_tryEarly_134 rfl ?_
                        refine a_iload C dX2_tryEarly_136 rfl ?_
                        refine a_aload_n C dX2_tryEarly_138 rfl ?_
                        refine a_get (ci := 3) (i := 1) (v := .ref (ad 11)) C iw_X2 rfl (by decide) rfl fl_X2_22 rfl rfl dX2_tryEarly_139 ?_
                        refine a_getN (ci := 9) (i := 6) (v := ii_v (g5 11 6)) C iw_X8 rfl (by decide) rfl fn_X2_92 rfl rfl dX2_tryEarly_142 ?_
                        rw [hrl (by omega)]
                        refine a_iload C dX2_tryEarly_145 rfl ?_
                        refine a_isub C dX2_tryEarly_147 ?_
                        refine a_callV (o := 13) (As := [ii_v ((b : Nat) : Int), ii_v ((i : Nat) : Int), ii_v ((i + d : Nat) : Int), ii_v (((wk_f v (lay_f r i (i + d) (TS b) 0) (f (200 + b) 1) (f (200 + b) 8) (if 0 ≤ g 13 3 then (pl_len v (f (200 + b) 3) (f (200 + b) 4) (TS b) (f (200 + b) 6) (f (200 + b) 7)) + g 13 6 else 1000000) (f (200 + b) 3) (f (200 + b) 4) now (lay_f r i (i + d) (TS b) 0) 0 (f (200 + b) 6) (f (200 + b) 7) 0 (f (200 + b) 9) []).2) - (pl_len v (f (200 + b) 3) (f (200 + b) 4) (TS b) (f (200 + b) 6) (f (200 + b) 7)))]) C (c_keep hl g5 w ((b : Nat) : Int) ((i : Nat) : Int) ((i + d : Nat) : Int) (((wk_f v (lay_f r i (i + d) (TS b) 0) (f (200 + b) 1) (f (200 + b) 8) (if 0 ≤ g 13 3 then (pl_len v (f (200 + b) 3) (f (200 + b) 4) (TS b) (f (200 + b) 6) (f (200 + b) 7)) + g 13 6 else 1000000) (f (200 + b) 3) (f (200 + b) 4) now (lay_f r i (i + d) (TS b) 0) 0 (f (200 + b) 6) (f (200 + b) 7) 0 (f (200 + b) 9) []).2) - (pl_len v (f (200 + b) 3) (f (200 + b) 4) (TS b) (f (200 + b) 6) (f (200 + b) 7)))) co_X2_keep in_X2 ml_X2_77 im_X2_keep se_X2_keep rfl rfl ar_X2_keep ⟨by decide, by decide, by decide, by decide⟩ rfl (Nat.le_of_ble_eq_true rfl) dX2_tryEarly_148 (a_dV ?_) a_nV
                        obtain ⟨g6, eg6⟩ : ∃ F : Nat → Nat → Int, F = ii_up (ii_up (ii_up (ii_up g5 13 3 ((b : Nat) : Int)) 13 4 ((i : Nat) : Int)) 13 5 ((i + d : Nat) : Int)) 13 6 (((wk_f v (lay_f r i (i + d) (TS b) 0) (f (200 + b) 1) (f (200 + b) 8) (if 0 ≤ g 13 3 then (pl_len v (f (200 + b) 3) (f (200 + b) 4) (TS b) (f (200 + b) 6) (f (200 + b) 7)) + g 13 6 else 1000000) (f (200 + b) 3) (f (200 + b) 4) now (lay_f r i (i + d) (TS b) 0) 0 (f (200 + b) 6) (f (200 + b) 7) 0 (f (200 + b) 9) []).2) - (pl_len v (f (200 + b) 3) (f (200 + b) 4) (TS b) (f (200 + b) 6) (f (200 + b) 7))) := ⟨_, rfl⟩
                        rw [← eg6]
                        have hfrg6 : ∀ o2, o2 ≠ 10 → o2 ≠ 11 → o2 ≠ 12 → o2 ≠ 13 → o2 ≠ 14 → o2 ≠ 24 → g6 o2 = f o2 := fun o2 h1 h2 h3 h4 h5 h6 => by rw [eg6, ii_up_row _ _ h4, ii_up_row _ _ h4, ii_up_row _ _ h4, ii_up_row _ _ h4]; exact hfrg5 o2 h1 h2 h3 h4 h5 h6
                        refine a_iinc (L' := [(0, .ref (ad 13)), (1, .ref (ad 1)), (2, ii_v ((r : Nat) : Int)), (3, ii_v now), (4, ii_v ((b : Nat) : Int)), (5, .ref (ad (200 + b))), (6, ii_v (pl_len v (f (200 + b) 3) (f (200 + b) 4) (TS b) (f (200 + b) 6) (f (200 + b) 7))), (7, ii_v ((i : Nat) : Int)), (8, ii_v (((i + d : Nat) : Int) + 1)), (9, ii_v (if 0 ≤ g 13 3 then (pl_len v (f (200 + b) 3) (f (200 + b) 4) (TS b) (f (200 + b) 6) (f (200 + b) 7)) + g 13 6 else 1000000))]) C dX2_tryEarly_151 rfl (by decide) rfl ?_
                        refine a_goto (tgt := 63) C dX2_tryEarly_154 rfl ?_
                        refine a_pick [0, 1, 2, 3, 4, 5, 6, 7, 8] (L2 := [(0, .ref (ad 13)), (1, .ref (ad 1)), (2, ii_v ((r : Nat) : Int)), (3, ii_v now), (4, ii_v ((b : Nat) : Int)), (5, .ref (ad (200 + b))), (6, ii_v (pl_len v (f (200 + b) 3) (f (200 + b) 4) (TS b) (f (200 + b) 6) (f (200 + b) 7))), (7, ii_v ((i : Nat) : Int)), (8, ii_v (((i + d : Nat) : Int) + 1))]) rfl ?_
                        exact ih63 (d + 1) g6 (by omega) (by omega) hfrg6 (pe_yes hst hye eg6 h13g5) (pe_b2 (b := b) hst hbd (by omega) (fun bound => by have := wk_b hB3 hB4 (fun q h => (hD.2.2.1.1 q h).2.2) (lay_f r i (i + d) (TS b) 0) (f (200 + b) 1) (f (200 + b) 8) bound now (lay_f r i (i + d) (TS b) 0) 0 (f (200 + b) 6) (f (200 + b) 7) 0 (f (200 + b) 9) [] (lay_ok hrn hlv.2) hB6 hB7 (by omega); omega) (pe_yes hst hye eg6 h13g5))
              exact loop63 (_ + 1) 0 g (Nat.lt_succ_self _) (by omega) hfr hst hbd
        exact loop46 (_ + 1) 0 g (Nat.lt_succ_self _) (Nat.zero_le _) hfr hst hbd
  exact loop7 (_ + 1) 0 g1 (Nat.lt_succ_self _) (Nat.zero_le _) (fun o2 h1 h2 h3 h4 h5 h6 => by rw [eg1, ii_up_row _ _ h4, ii_up_row _ _ h4, ii_up_row _ _ h4]) (by rw [eg1]; simp [pe_at, pe_b, ii_up]) (by rw [eg1]; simp [pe_bd, ii_up])
set_option maxRecDepth 20000 in
set_option maxHeartbeats 2000000 in
theorem c_layBest {l : Launch} {E : ab_E} {base : Nat} (hl : l.stackTraces = false) {ad : Nat → Nat} (f : Nat → Nat → Int) (w : Nat × Nat × Int64 × UInt64) {t : Nat} (ht : ab_ob 4 w.1 w.2.1 t = some (8, [some (t + 10), none])) (hta : ab_ar 4 w.1 (t + 10) = some (0, 8)) {S : List Nat} (hS : ts_I f t S) (ht14 : t ≠ 14) (hS6 : S.length ≤ 6) (r i j : Nat) (hr32 : r < 31) (hij : i ≤ j) (hjl : j ≤ S.length) (h4 : f 13 4 = (i : Int)) (h5 : f 13 5 = (j : Int)) : ab_M l E base yX2_layBest cX2_layBest 3 none 4 0 0 [.ref (ad 13), .ref (ad t), ii_v ((r : Nat) : Int)] ab_x4 ad (f, w) (ab_F ad w (fun o g => o = none ∧ ts_I g 14 (lay_f r i j S 0) ∧ ∀ o2, o2 ≠ 14 → o2 ≠ 24 → g o2 = f o2)) := by
  obtain ⟨Post, hPost⟩ : ∃ P : ab_P, P = (ab_F ad w (fun o g => o = none ∧ ts_I g 14 (lay_f r i j S 0) ∧ ∀ o2, o2 ≠ 14 → o2 ≠ 24 → g o2 = f o2)) := ⟨_, rfl⟩
  rw [← hPost]
  refine ab_of RX2 [(0, .ref (ad 13)), (1, .ref (ad t)), (2, ii_v ((r : Nat) : Int))] hl (by decide) rfl (Nat.le_of_ble_eq_true rfl) rfl ?_
  intro p e s m args below meth c C T0 hnm
  refine a_aload_n C dX2_layBest_0 rfl ?_
  refine a_aload_n C dX2_layBest_1 rfl ?_
  refine a_iload_n C dX2_layBest_2 rfl ?_
  refine a_aload_n C dX2_layBest_3 rfl ?_
  refine a_get (ci := 3) (i := 4) (v := ii_v (f 13 4)) C iw_X2 rfl (by decide) rfl fl_X2_95 rfl rfl dX2_layBest_4 ?_
  rw [h4]
  refine a_aload_n C dX2_layBest_7 rfl ?_
  refine a_get (ci := 3) (i := 5) (v := ii_v (f 13 5)) C iw_X2 rfl (by decide) rfl fl_X2_98 rfl rfl dX2_layBest_8 ?_
  rw [h5]
  refine a_callV (o := 13) (As := [.ref (ad t), ii_v ((r : Nat) : Int), ii_v ((i : Nat) : Int), ii_v ((j : Nat) : Int)]) C (c_lay hl f w ht hta hS ht14 hS6 r i j hr32 hij hjl) co_X2_lay in_X2 ml_X2_57 im_X2_lay se_X2_lay rfl rfl ar_X2_lay ⟨by decide, by decide, by decide, by decide⟩ rfl (Nat.le_of_ble_eq_true rfl) dX2_layBest_11 (a_dF ?_) a_nF
  intro vg1 g1 hvg1
  obtain ⟨rfl, hsg1, hfg1⟩ := hvg1
  refine a_vret C ?_ (by decide) (by decide) dX2_layBest_14
  rw [hPost]
  exact ab_F_of ⟨rfl, hsg1, hfg1⟩
