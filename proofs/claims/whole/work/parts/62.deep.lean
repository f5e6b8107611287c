/-! The model's search finds the first of the shortest too. -/
theorem ah_iff {S0 : List Nat} : ∀ (S : List Nat) (k : Nat), pl_ah S0 S k = false ↔ ∀ j, j < S.length → ¬ S.getD j 0 % 2 = 0 → 2 * (S.getD j 0 / 2) ∈ S0 → S0.idxOf (2 * (S.getD j 0 / 2)) ≤ k + j
  | [], _ => ⟨fun _ j hj => absurd hj (Nat.not_lt_zero j), fun _ => rfl⟩
  | q :: S, k => by
    rw [ah_c, ah_iff S (k + 1)]
    constructor
    · rintro ⟨h1, h2⟩ j hj
      cases j with
      | zero => simpa using h1
      | succ j =>
        have := h2 j (by simpa using hj)
        rw [show k + 1 + j = k + (j + 1) by omega] at this
        simpa using this
    · intro h
      refine ⟨by simpa using h 0 (by simp), fun j hj => ?_⟩
      have := h (j + 1) (by simpa using hj)
      rw [show k + 1 + j = k + (j + 1) by omega]
      simpa using this
/-- the model's search: none yet, or the first of the shortest -/
def os (len : List Nat → Int) (X : List Nat → Prop) (s : om_S) : Prop := (s.1 = -1 ∧ ∀ G, ¬ X G) ∨ mn len X s.2 s.1
section OS
variable {len : List Nat → Int} {X Y : List Nat → Prop} {s : om_S} {O : List Nat}
theorem os_skip (h : os len X s) (hXY : ∀ G, X G → Y G) (hY : ∀ G, Y G → X G ∨ (0 ≤ s.1 ∧ s.1 ≤ len G ∧ ∀ H, X H → lx H G)) : os len Y s := by
  rcases h with ⟨h1, h2⟩ | h
  · refine Or.inl ⟨h1, fun G hG => ?_⟩
    rcases hY G hG with h3 | h3
    · exact h2 G h3
    · omega
  · refine Or.inr ⟨hXY _ h.1, h.2.1, fun G hG => ?_⟩
    rcases hY G hG with h3 | ⟨-, h4, h5⟩
    · exact h.2.2 G h3
    · by_cases e : s.1 = len G
      · exact Or.inr ⟨e, Or.inr (h5 _ h.1)⟩
      · exact Or.inl (by omega)
theorem os_take (h : os len X s) (hl : ∀ G, 0 ≤ len G) (hO : ¬ (0 ≤ s.1 ∧ s.1 ≤ len O)) (hY : ∀ G, Y G ↔ X G ∨ G = O) : os len Y (len O, O) := by
  refine Or.inr ⟨(hY O).mpr (Or.inr rfl), rfl, fun G hG => ?_⟩
  show len O < len G ∨ _
  rcases (hY G).mp hG with h1 | h1
  · refine Or.inl ?_
    rcases h with ⟨-, h2⟩ | h
    · exact absurd h1 (h2 G)
    · have h3 := h.2.1
      have h4 := hl s.2
      rcases h.2.2 G h1 with h2 | ⟨h2, -⟩ <;> omega
  · exact Or.inr ⟨by rw [h1], Or.inl h1.symm⟩
theorem os_iff (hXY : ∀ G, X G ↔ Y G) (h : os len X s) : os len Y s := by
  rcases h with ⟨h1, h2⟩ | h
  · exact Or.inl ⟨h1, fun G hG => h2 G ((hXY G).mpr hG)⟩
  · exact Or.inr (mn_iff hXY h)
end OS
section OM
variable {v : Nat → Nat → Int} {β : Nat → Int} {now : Int} {S : List Nat} {n : Nat}
theorem ln_0 (G : List Nat) : 0 ≤ ln v β G := by
  have h1 := len_tri (v := v) (β 3) (β 4) G (β 6) (β 7)
  have h2 := pd_0 (β 6) (β 7) (β 3) (β 4)
  unfold ln
  omega
/-- an order that goes on from P -/
def ex (v : Nat → Nat → Int) (β : Nat → Int) (now : Int) (S P G : List Nat) : Prop := (pm_L S G ∧ fe v β now G) ∧ ∀ j, j < P.length → G.getD j 0 = P.getD j 0
theorem nd_app {P : List Nat} {t : Nat} (h : nd_L P) (ht : ¬ t ∈ P) : nd_L (P ++ [t]) := by
  intro i j hi hj e
  rw [List.length_append] at hi hj
  have h1 : [t].length = 1 := rfl
  by_cases hi2 : i < P.length <;> by_cases hj2 : j < P.length
  · rw [gd_app_l hi2, gd_app_l hj2] at e
    exact h i j hi2 hj2 e
  · rw [gd_app_l hi2, gd_app_r (by omega), show j - P.length = 0 by omega] at e
    exact absurd (show t ∈ P from (show P.getD i 0 = t from e) ▸ gd_mem hi2) ht
  · rw [gd_app_r (by omega), gd_app_l hj2, show i - P.length = 0 by omega] at e
    exact absurd (show t ∈ P from (show t = P.getD j 0 from e) ▸ gd_mem hj2) ht
  · omega
theorem nd_sub {P G : List Nat} (hP : nd_L P) (hs : ∀ z, z ∈ P → z ∈ G) : P.length ≤ G.length := by
  have h1 : ∀ (P G : List Nat), nd_L P → (∀ z, z ∈ P → z ∈ G) → P.length ≤ G.length := by
    intro P
    induction P with
    | nil => intro G _ _; exact Nat.zero_le _
    | cons x P ih =>
      intro G hP hs
      obtain ⟨h2, h3⟩ := nd_tail hP
      have h4 := ih (G.erase x) h2 (fun z hz => (List.mem_erase_of_ne (fun e : z = x => h3 (e ▸ hz))).mpr (hs z (List.mem_cons_of_mem _ hz)))
      have h5 := List.length_erase_of_mem (hs x List.mem_cons_self)
      have h6 := List.length_pos_of_mem (hs x List.mem_cons_self)
      simp only [List.length_cons]
      omega
  exact h1 P G hP hs
/-- as many stops, all of S -/
theorem pm_full {P : List Nat} (hP : nd_L P) (hS : nd_L S) (hl : P.length = S.length) (hs : ∀ z, z ∈ P → z ∈ S) : pm_L S P := by
  refine ⟨hl, hP, fun x => ⟨hs x, fun hx => ?_⟩⟩
  by_cases hm : x ∈ P
  · exact hm
  · have := nd_sub (nd_app hP hm) (G := S) (fun z hz => by
      rcases List.mem_append.mp hz with h | h
      · exact hs z h
      · rw [List.mem_singleton.mp h]; exact hx)
    rw [List.length_append] at this
    have h1 : [x].length = 1 := rfl
    omega
/-- every drop of a beginning has its pickup before it -/
def pre (S P : List Nat) : Prop := ∀ j, j < P.length → ¬ P.getD j 0 % 2 = 0 → 2 * (P.getD j 0 / 2) ∈ S → ∃ i, i < j ∧ P.getD i 0 = 2 * (P.getD j 0 / 2)
theorem pre_ah {P : List Nat} (h : pre S P) (hs : ∀ z, z ∈ P → z ∈ S) : pl_ah P P 0 = false := by
  rw [ah_iff]
  intro j hj ho hm
  obtain ⟨i, hi, e⟩ := h j hj ho (hs _ hm)
  have := gd_idx_le (S := P) (k := i) (by omega) e
  omega
theorem om_best (hS : nd_L S) (hn : ∀ z, z ∈ S → z < 2 * n) : ∀ (L : Nat) (P : List Nat) (s : om_S) (X : List Nat → Prop) (_ : P.length + L = S.length) (_ : nd_L P) (_ : ∀ z, z ∈ P → z ∈ S) (_ : pre S P) (_ : os (ln v β) X s) (_ : ∀ H, X H → ∀ G, ex v β now S P G → lx H G),
    os (ln v β) (fun G => X G ∨ ex v β now S P G) (om_f v β now S n L P s)
  | 0, P, s, X, hl, hP, hs, hp, ho, hx => by
    have hpm := pm_full hP hS (by omega) hs
    have hah := pre_ah hp hs
    have hG : ∀ G, ex v β now S P G → G = P := fun G h => gd_ext 0 (by rw [h.1.1.1]; omega) (fun k hk => h.2 k (by rw [h.1.1.1] at hk; omega))
    have hfb := pl_fault_b v P (β 6) (β 7) now (β 9) (β 1) (β 3) (β 4) (β 8)
    rw [om_f, om_0]
    split
    · rename_i hc
      refine os_skip ho (fun G h => Or.inl h) (fun G h => ?_)
      rcases h with h | h
      · exact Or.inl h
      · refine Or.inr ?_
        have e := hG G h
        rcases hc with hc | hc
        · rw [e] at h
          have := h.1.2.2
          omega
        · refine ⟨hc.1, ?_, fun H hH => hx H hH G h⟩
          rw [e]
          exact hc.2
    · rename_i hc
      refine os_take (O := P) ho ln_0 (fun z => hc (Or.inr z)) (fun G => ⟨fun h => ?_, fun h => ?_⟩)
      · rcases h with h | h
        · exact Or.inl h
        · exact Or.inr (hG G h)
      · rcases h with h | h
        · exact Or.inl h
        · subst h
          refine Or.inr ⟨⟨hpm, hah, ?_⟩, fun j _ => rfl⟩
          by_cases hz : 0 < pl_fault v G (β 6) (β 7) now (β 9) (β 1) (β 3) (β 4) (β 8)
          · exact absurd (Or.inl hz) hc
          · omega
  | L + 1, P, s, X, hl, hP, hs, hp, ho, hx => by
    rw [om_f]
    have inner : ∀ m, os (ln v β) (fun G => X G ∨ (ex v β now S P G ∧ G.getD P.length 0 < m)) (om_k (fun t s => if t ∈ S ∧ ¬ t ∈ P ∧ ¬ (¬ t % 2 = 0 ∧ t - 1 ∈ S ∧ ¬ t - 1 ∈ P) then om_f v β now S n L (P ++ [t]) s else s) m s) := by
      intro m
      induction m with
      | zero =>
        refine os_iff (fun G => ⟨fun h => Or.inl h, fun h => ?_⟩) ho
        rcases h with h | h
        · exact h
        · exact absurd h.2 (Nat.not_lt_zero _)
      | succ m ih =>
        rw [om_k]
        have hapl : ∀ j, j < P.length → (P ++ [m]).getD j 0 = P.getD j 0 := fun j hj => gd_app_l hj
        have hapr : (P ++ [m]).getD P.length 0 = m := by rw [gd_app_r (Nat.le_refl _), Nat.sub_self]; rfl
        have hlen : (P ++ [m]).length = P.length + 1 := by rw [List.length_append]; rfl
        split
        · rename_i hc
          have hex : ∀ G, ex v β now S (P ++ [m]) G ↔ ex v β now S P G ∧ G.getD P.length 0 = m := fun G => by
            constructor
            · intro h
              refine ⟨⟨h.1, fun j hj => (h.2 j (by omega)).trans (hapl j hj)⟩, (h.2 _ (by omega)).trans hapr⟩
            · intro h
              refine ⟨h.1.1, fun j hj => ?_⟩
              by_cases hj2 : j < P.length
              · exact (h.1.2 j hj2).trans (hapl j hj2).symm
              · rw [show j = P.length by omega, hapr]
                exact h.2
          refine os_iff (fun G => ?_) (om_best hS hn L (P ++ [m]) _ _ (by omega) (nd_app hP hc.2.1) (fun z hz => ?_) ?_ ih (fun H hH G hG => ?_))
          · rw [hex]
            constructor
            · rintro ((h | h) | h)
              · exact Or.inl h
              · exact Or.inr ⟨h.1, by omega⟩
              · exact Or.inr ⟨h.1, by omega⟩
            · rintro (h | h)
              · exact Or.inl (Or.inl h)
              · by_cases hz : G.getD P.length 0 < m
                · exact Or.inl (Or.inr ⟨h.1, hz⟩)
                · exact Or.inr ⟨h.1, by omega⟩
          · rcases List.mem_append.mp hz with h | h
            · exact hs z h
            · rw [List.mem_singleton.mp h]; exact hc.1
          · intro j hj hodd hm
            by_cases hj2 : j < P.length
            · rw [hapl j hj2] at hodd hm ⊢
              obtain ⟨i, hi, e⟩ := hp j hj2 hodd hm
              exact ⟨i, hi, by rw [hapl i (by omega)]; exact e⟩
            · rw [show j = P.length by omega, hapr] at hodd hm ⊢
              have h1 : m - 1 ∈ P := Decidable.byContradiction fun hz => hc.2.2 ⟨hodd, by rw [show m - 1 = 2 * (m / 2) by omega]; exact hm, hz⟩
              obtain ⟨i, hi, e⟩ := gd_of_mem (d := 0) h1
              exact ⟨i, by omega, by rw [hapl i hi, e]; omega⟩
          · have hG2 := (hex G).mp hG
            rcases hH with h | h
            · exact hx H h G hG2.1
            · exact ⟨P.length, by rw [h.1.1.1.1]; omega, fun j hj => (h.1.2 j hj).trans (hG2.1.2 j hj).symm, by rw [hG2.2]; exact h.2⟩
        · rename_i hc
          refine os_iff (fun G => ⟨fun h => ?_, fun h => ?_⟩) ih
          · rcases h with h | h
            · exact Or.inl h
            · exact Or.inr ⟨h.1, by omega⟩
          · rcases h with h | h
            · exact Or.inl h
            · by_cases hz : G.getD P.length 0 < m
              · exact Or.inr ⟨h.1, hz⟩
              · exfalso
                have e : G.getD P.length 0 = m := by omega
                have hGl : P.length < G.length := by rw [h.1.1.1.1]; omega
                have hmG : m ∈ G := e ▸ gd_mem hGl
                have hat : ∀ z, z ∈ P → ∃ i, i < P.length ∧ G.getD i 0 = z := fun z hz => by
                  obtain ⟨i, hi, e2⟩ := gd_of_mem (d := 0) hz
                  exact ⟨i, hi, (h.1.2 i hi).trans e2⟩
                refine hc ⟨(h.1.1.1.2.2 m).mp hmG, fun hz => ?_, fun hz => ?_⟩
                · obtain ⟨i, hi, e2⟩ := hat m hz
                  have := h.1.1.1.2.1 i P.length (by omega) hGl (e2.trans e.symm)
                  omega
                · obtain ⟨h1, h2, h3⟩ := hz
                  have h4 := (ah_iff G 0).mp h.1.1.2.1 P.length hGl
                  rw [e] at h4
                  have h5 : 2 * (m / 2) ∈ G := (h.1.1.1.2.2 _).mpr (by rw [show 2 * (m / 2) = m - 1 by omega]; exact h2)
                  have h6 := h4 h1 h5
                  have h7 := gd_idx (d := 0) h5
                  by_cases h8 : G.idxOf (2 * (m / 2)) = P.length
                  · rw [h8, e] at h7
                    omega
                  · refine h3 ?_
                    rw [show m - 1 = 2 * (m / 2) by omega, ← h7.2, h.1.2 _ (by omega)]
                    exact gd_mem (by omega)
    refine os_iff (fun G => ⟨fun h => ?_, fun h => ?_⟩) (inner (2 * n))
    · rcases h with h | h
      · exact Or.inl h
      · exact Or.inr h.1
    · rcases h with h | h
      · exact Or.inl h
      · exact Or.inr ⟨h, hn _ ((h.1.1.2.2 _).mp (gd_mem (by rw [h.1.1.1]; omega)))⟩
theorem om_first (hS : nd_L S) (hn : ∀ z, z ∈ S → z < 2 * n) (hf : fe v β now S) : mn (ln v β) (fun G => pm_L S G ∧ fe v β now G) (om_f v β now S n S.length [] (-1, [])).2 (om_f v β now S n S.length [] (-1, [])).1 := by
  have h := om_best (v := v) (β := β) (now := now) hS hn S.length [] (-1, []) (fun _ => False) (by simp) (fun i j hi => absurd hi (Nat.not_lt_zero i)) (fun z hz => by cases hz) (fun j hj => absurd hj (Nat.not_lt_zero j)) (Or.inl ⟨rfl, fun G hG => hG⟩) (fun H hH => hH.elim)
  rcases h with ⟨-, h⟩ | h
  · exact absurd (Or.inr ⟨⟨pm_refl hS, hf⟩, fun j hj => absurd hj (Nat.not_lt_zero j)⟩) (h S)
  · refine mn_iff (fun G => ⟨fun hG => ?_, fun hG => Or.inr ⟨hG, fun j hj => absurd hj (Nat.not_lt_zero j)⟩⟩) h
    rcases hG with hG | hG
    · exact hG.elim
    · exact hG.1
end OM
