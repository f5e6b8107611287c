/-! Orders of stops: the first of the shortest. -/
/-- before, letter by letter -/
def lx (G H : List Nat) : Prop := ∃ i, i < G.length ∧ (∀ j, j < i → G.getD j 0 = H.getD j 0) ∧ G.getD i 0 < H.getD i 0
theorem lx_tr {G H K : List Nat} (h1 : G.length = H.length) (h : lx G H) (h2 : lx H K) : lx G K := by
  obtain ⟨i, hi, ha, hb⟩ := h
  obtain ⟨j, hj, hc, hd⟩ := h2
  rcases Nat.lt_trichotomy i j with hij | hij | hij
  · exact ⟨i, hi, fun q hq => (ha q hq).trans (hc q (by omega)), by rw [← hc i hij]; exact hb⟩
  · subst hij
    exact ⟨i, hi, fun q hq => (ha q hq).trans (hc q hq), by omega⟩
  · exact ⟨j, by omega, fun q hq => (ha q (by omega)).trans (hc q hq), by rw [ha j hij]; exact hd⟩
theorem lx_ir {G : List Nat} (h : lx G G) : False := by
  obtain ⟨i, -, -, h⟩ := h
  omega
theorem lx_as {G H : List Nat} (h1 : G.length = H.length) (h : lx G H) (h2 : lx H G) : False := lx_ir (lx_tr h1 h h2)
theorem lx_tri : ∀ (n : Nat) {G H : List Nat} (_ : G.length = H.length) (_ : ∀ j, j + n < G.length → G.getD j 0 = H.getD j 0) (_ : n ≤ G.length), lx G H ∨ G = H ∨ lx H G
  | 0, G, H, hl, h, _ => Or.inr (Or.inl (gd_ext 0 hl (fun k hk => h k hk)))
  | n + 1, G, H, hl, h, hn => by
    rcases Nat.lt_trichotomy (G.getD (G.length - (n + 1)) 0) (H.getD (G.length - (n + 1)) 0) with hc | hc | hc
    · exact Or.inl ⟨G.length - (n + 1), by omega, fun j hj => h j (by omega), hc⟩
    · refine lx_tri n hl (fun j hj => ?_) (by omega)
      by_cases hjn : j + (n + 1) < G.length
      · exact h j hjn
      · rw [show j = G.length - (n + 1) by omega]
        exact hc
    · exact Or.inr (Or.inr ⟨G.length - (n + 1), by omega, fun j hj => (h j (by omega)).symm, hc⟩)
theorem lx_to {G H : List Nat} (hl : G.length = H.length) : lx G H ∨ G = H ∨ lx H G := lx_tri G.length hl (fun j hj => by omega) (Nat.le_refl _)
theorem pm_sym {S G : List Nat} (hS : nd_L S) (h : pm_L S G) : pm_L G S := ⟨h.1.symm, hS, fun x => (h.2.2 x).symm⟩
/-- where a stop of one order stands in another that agrees before -/
theorem pm_at2 {O G : List Nat} {i : Nat} (hO : pm_L O G) (ha : ∀ j, j < i → O.getD j 0 = G.getD j 0) (hi : i < G.length) : ∃ k, i ≤ k ∧ k < O.length ∧ O.getD k 0 = G.getD i 0 := by
  obtain ⟨k, hk, e⟩ := gd_of_mem (d := 0) ((hO.2.2 _).mp (gd_mem (d := 0) hi))
  refine ⟨k, ?_, hk, e⟩
  by_cases hki : k < i
  · rw [ha k hki] at e
    have := hO.2.1 k i (by omega) hi e
    omega
  · omega
theorem lx_fall {O G : List Nat} {i : Nat} (hO : pm_L O G) (ha : ∀ j, j < i → O.getD j 0 = G.getD j 0) (hi : i < G.length) (hd : ∀ k, i < k → k < O.length → O.getD k 0 < O.getD i 0) : ¬ O.getD i 0 < G.getD i 0 := by
  intro h
  obtain ⟨k, h1, h2, h3⟩ := pm_at2 hO ha hi
  by_cases hk : k = i
  · subst hk; omega
  · have := hd k (by omega) h2
    omega
theorem lx_rise {O G : List Nat} {i : Nat} (hO : pm_L O G) (ha : ∀ j, j < i → O.getD j 0 = G.getD j 0) (hi : i < G.length) (hd : ∀ k, i < k → k < O.length → O.getD i 0 < O.getD k 0) : ¬ G.getD i 0 < O.getD i 0 := by
  intro h
  obtain ⟨k, h1, h2, h3⟩ := pm_at2 hO ha hi
  by_cases hk : k = i
  · subst hk; omega
  · have := hd k (by omega) h2
    omega
theorem nx_next {O O2 G : List Nat} (h : nx_R O O2) (hG : pm_L O G) (h1 : lx O G) (h2 : lx G O2) : False := by
  obtain ⟨hp, i, hi, hb, hg, hmin, hfall, hrise⟩ := h
  have hl : O2.length = O.length := hp.1
  have hlG : G.length = O.length := hG.1
  have hp2 : pm_L O2 G := ⟨by omega, hG.2.1, fun x => (hG.2.2 x).trans (hp.2.2 x).symm⟩
  obtain ⟨i1, hi1, ha1, hc1⟩ := h1
  rcases Nat.lt_trichotomy i1 i with hz | hz | hz
  · exact lx_as (by omega) h2 ⟨i1, by omega, fun j hj => (hb j (by omega)).trans (ha1 j hj), by rw [hb i1 hz]; exact hc1⟩
  · subst hz
    obtain ⟨k, hk1, hk2, hk3⟩ := pm_at2 hG ha1 (by omega)
    have hki : k ≠ i1 := fun z => by subst z; omega
    have hle := hmin k (by omega) hk2 (by omega)
    rw [hk3] at hle
    obtain ⟨i2, hi2, ha2, hc2⟩ := h2
    rcases Nat.lt_trichotomy i2 i1 with hy | hy | hy
    · rw [hb i2 hy, ha1 i2 hy] at hc2; omega
    · subst hy; omega
    · exact lx_rise hp2 (fun j hj => (ha2 j hj).symm) hi2 (fun k hk hk2 => hrise i2 k hy hk (by omega)) hc2
  · exact lx_fall hG ha1 (by omega) (fun k hk hk2 => hfall i1 k hz hk hk2) hc1
theorem nx_end {O G : List Nat} (h : nx_last O) (hG : pm_L O G) : ¬ lx O G := by
  intro h1
  obtain ⟨i1, hi1, ha1, hc1⟩ := h1
  exact lx_fall hG ha1 (by rw [hG.1]; exact hi1) (fun k hk hk2 => h i1 k hk hk2) hc1
theorem so_first {S O G : List Nat} (h : so_P true 0 S O) (hS : nd_L S) (hG : pm_L S G) : ¬ lx G O := by
  intro h1
  obtain ⟨i1, hi1, ha1, hc1⟩ := h1
  have hp : pm_L O G := pm_trans (pm_sym hS h.1) hG
  exact lx_rise hp (fun j hj => (ha1 j hj).symm) hi1 (fun k hk hk2 => by
    have := h.2.2 i1 k (Nat.zero_le _) hk (by rw [← h.1.1]; exact hk2)
    unfold so_lt at this
    rw [if_pos rfl] at this
    exact this) hc1
theorem nx_lx {O O2 : List Nat} (h : nx_R O O2) : lx O O2 := by
  obtain ⟨hp, i, hi, hb, hg, -⟩ := h
  exact ⟨i, by omega, fun j hj => (hb j hj).symm, hg⟩
/-- the rank of an order -/
def fc : Nat → Nat
  | 0 => 1
  | n + 1 => (n + 1) * fc n
def ct (x : Nat) : List Nat → Nat
  | [] => 0
  | y :: L => (if y < x then 1 else 0) + ct x L
def rk : List Nat → Nat
  | [] => 0
  | x :: L => ct x L * fc L.length + rk L
theorem ct_le (x : Nat) : ∀ L : List Nat, ct x L ≤ L.length
  | [] => Nat.le_refl _
  | y :: L => by
    have := ct_le x L
    unfold ct
    split <;> simp only [List.length_cons] <;> omega
theorem fc_pos : ∀ n, 0 < fc n
  | 0 => Nat.one_pos
  | n + 1 => Nat.mul_pos (Nat.succ_pos n) (fc_pos n)
theorem rk_lt : ∀ L : List Nat, rk L < fc L.length
  | [] => Nat.one_pos
  | x :: L => by
    have h1 := rk_lt L
    have h2 := Nat.mul_le_mul_right (fc L.length) (ct_le x L)
    show ct x L * fc L.length + rk L < (L.length + 1) * fc L.length
    rw [Nat.add_mul, Nat.one_mul]
    omega
/-- how many of a set are under x -/
theorem ct_sub (x : Nat) : ∀ (n : Nat) {L M : List Nat} (_ : L.length ≤ n) (_ : nd_L L) (_ : ∀ z, z ∈ L → z < x → z ∈ M), ct x L ≤ ct x M := by
  intro n
  induction n with
  | zero =>
    intro L M hn hd hs
    cases L with
    | nil => exact Nat.zero_le _
    | cons y L => simp at hn
  | succ n ih =>
    intro L M hn hd hs
    cases L with
    | nil => exact Nat.zero_le _
    | cons y L =>
      have hd2 : nd_L L := fun i j hi hj e => by
        have := hd (i + 1) (j + 1) (by simp; omega) (by simp; omega) (by simpa using e)
        omega
      have hyL : y ∉ L := fun hm => by
        obtain ⟨k, hk, e⟩ := gd_of_mem (d := 0) hm
        have := hd 0 (k + 1) (by simp) (by simp; omega) (by simpa using e.symm)
        omega
      show (if y < x then 1 else 0) + ct x L ≤ ct x M
      by_cases hy : y < x
      · rw [if_pos hy]
        have hyM := hs y List.mem_cons_self hy
        have h3 : ∀ (M : List Nat), y ∈ M → ct x M = 1 + ct x (M.erase y) := by
          intro M
          induction M with
          | nil => intro h; cases h
          | cons m M ihM =>
            intro h
            by_cases hm : m = y
            · subst hm
              rw [List.erase_cons_head]
              show (if m < x then 1 else 0) + ct x M = _
              rw [if_pos hy]
            · rw [List.erase_cons_tail (by simpa using hm)]
              have h4 : y ∈ M := by
                rcases List.mem_cons.mp h with h | h
                · exact absurd h.symm hm
                · exact h
              show (if m < x then 1 else 0) + ct x M = 1 + ((if m < x then 1 else 0) + ct x (M.erase y))
              rw [ihM h4]
              omega
        rw [h3 M hyM]
        have := ih (L := L) (M := M.erase y) (by simp at hn; omega) hd2 (fun z hz hzx => (List.mem_erase_of_ne (fun e : z = y => hyL (e ▸ hz))).mpr (hs z (List.mem_cons_of_mem _ hz) hzx))
        omega
      · rw [if_neg hy]
        have := ih (L := L) (M := M) (by simp at hn; omega) hd2 (fun z hz hzx => hs z (List.mem_cons_of_mem _ hz) hzx)
        omega
theorem nd_tail {x : Nat} {L : List Nat} (hd : nd_L (x :: L)) : nd_L L ∧ x ∉ L := by
  refine ⟨fun i j hi hj e => ?_, fun hm => ?_⟩
  · have := hd (i + 1) (j + 1) (by simp; omega) (by simp; omega) (by simpa using e)
    omega
  · obtain ⟨k, hk, e⟩ := gd_of_mem (d := 0) hm
    have := hd 0 (k + 1) (by simp) (by simp; omega) (by simpa using e.symm)
    omega
theorem ct_eq {x : Nat} {L M : List Nat} (h1 : nd_L L) (h2 : nd_L M) (h : ∀ z, z ∈ L ↔ z ∈ M) : ct x L = ct x M :=
  Nat.le_antisymm (ct_sub x _ (Nat.le_refl _) h1 (fun z hz _ => (h z).mp hz)) (ct_sub x _ (Nat.le_refl _) h2 (fun z hz _ => (h z).mpr hz))
theorem rk_up : ∀ {G H : List Nat} (_ : nd_L G) (_ : nd_L H) (_ : G.length = H.length) (_ : ∀ z, z ∈ G ↔ z ∈ H) (_ : lx G H), rk G < rk H
  | [], _, _, _, _, _, h => by
    obtain ⟨i, hi, -⟩ := h
    simp at hi
  | x :: G, [], _, _, hl, _, _ => by simp at hl
  | x :: G, y :: H, hG, hH, hl, hm, h => by
    obtain ⟨i, hi, ha, hb⟩ := h
    have hl2 : G.length = H.length := by simpa using hl
    obtain ⟨hG2, hxG⟩ := nd_tail hG
    obtain ⟨hH2, hyH⟩ := nd_tail hH
    show ct x G * fc G.length + rk G < ct y H * fc H.length + rk H
    rw [← hl2]
    cases i with
    | zero =>
      have hxy : x < y := by simpa using hb
      have hc : ct x G + 1 ≤ ct y H := by
        have h0 : ct x G ≤ ct x H := ct_sub x _ (Nat.le_refl _) hG2 (fun z hz hzx => by
          have := (hm z).mp (List.mem_cons_of_mem _ hz)
          rcases List.mem_cons.mp this with e | e
          · omega
          · exact e)
        have hxH : x ∈ H := by
          have := (hm x).mp List.mem_cons_self
          rcases List.mem_cons.mp this with e | e
          · omega
          · exact e
        have h1 : ∀ (M : List Nat), x ∈ M → ct x M + 1 ≤ ct y M := by
          have hle : ∀ (M : List Nat), ct x M ≤ ct y M := by
            intro M
            induction M with
            | nil => exact Nat.le_refl _
            | cons m M ih =>
              unfold ct
              split
              · rw [if_pos (by omega)]; omega
              · split <;> omega
          intro M
          induction M with
          | nil => intro h; cases h
          | cons m M ih =>
            intro h
            unfold ct
            rcases List.mem_cons.mp h with e | e
            · rw [if_neg (by omega), if_pos (by omega)]
              have := hle M
              omega
            · have := ih e
              split
              · rw [if_pos (by omega)]; omega
              · split <;> omega
        have := h1 H hxH
        omega
      have h3 := Nat.mul_le_mul_right (fc G.length) hc
      rw [Nat.add_mul, Nat.one_mul] at h3
      have := rk_lt G
      omega
    | succ i =>
      have hxy : x = y := by simpa using ha 0 (Nat.succ_pos _)
      subst hxy
      have hm2 : ∀ z, z ∈ G ↔ z ∈ H := fun z => by
        constructor
        · intro hz
          rcases List.mem_cons.mp ((hm z).mp (List.mem_cons_of_mem _ hz)) with e | e
          · exact absurd (e ▸ hz) hxG
          · exact e
        · intro hz
          rcases List.mem_cons.mp ((hm z).mpr (List.mem_cons_of_mem _ hz)) with e | e
          · exact absurd (e ▸ hz) hyH
          · exact e
      rw [ct_eq hG2 hH2 hm2]
      have := rk_up hG2 hH2 hl2 hm2 ⟨i, by simpa using hi, fun j hj => by simpa using ha (j + 1) (by omega), by simpa using hb⟩
      omega
theorem fc_mono : ∀ {m n : Nat} (_ : m ≤ n), fc m ≤ fc n
  | m, 0, h => by rw [Nat.le_zero.mp h]; exact Nat.le_refl _
  | m, n + 1, h => by
    by_cases e : m = n + 1
    · rw [e]; exact Nat.le_refl _
    · have h1 := fc_mono (m := m) (n := n) (by omega)
      have h2 := fc_pos n
      show fc m ≤ (n + 1) * fc n
      have h3 := Nat.mul_le_mul_right (fc n) (show 1 ≤ n + 1 by omega)
      rw [Nat.one_mul] at h3
      omega
theorem rk_720 {G : List Nat} (h : G.length ≤ 6) : rk G < 720 := Nat.lt_of_lt_of_le (rk_lt G) (Nat.le_trans (fc_mono h) (by decide))
/-- B with the number b is the first of the shortest among X -/
def mn (len : List Nat → Int) (X : List Nat → Prop) (B : List Nat) (b : Int) : Prop := X B ∧ b = len B ∧ ∀ G, X G → b < len G ∨ (b = len G ∧ (B = G ∨ lx B G))
theorem mn_one {len : List Nat → Int} {X : List Nat → Prop} {n : Nat} {B C : List Nat} {b c : Int} (hX : ∀ G, X G → G.length = n) (h : mn len X B b) (h2 : mn len X C c) : B = C ∧ b = c := by
  have hl : B.length = C.length := (hX B h.1).trans (hX C h2.1).symm
  rcases h.2.2 C h2.1 with h3 | ⟨h3, h4⟩ <;> rcases h2.2.2 B h.1 with h5 | ⟨h5, h6⟩
  · have := h.2.1; have := h2.2.1; omega
  · have := h.2.1; have := h2.2.1; omega
  · have := h.2.1; have := h2.2.1; omega
  · refine ⟨?_, by rw [h3, h2.2.1]⟩
    rcases h4 with h4 | h4
    · exact h4
    · rcases h6 with h6 | h6
      · exact h6.symm
      · exact (lx_as hl h4 h6).elim
theorem mn_iff {len : List Nat → Int} {X Y : List Nat → Prop} {B : List Nat} {b : Int} (hXY : ∀ G, X G ↔ Y G) (h : mn len X B b) : mn len Y B b := ⟨(hXY B).mp h.1, h.2.1, fun G hG => h.2.2 G ((hXY G).mpr hG)⟩
/-- the class's search: B0 with b0 so far, or the first of the shortest -/
def cs (len : List Nat → Int) (B0 : List Nat) (b0 : Int) (X : List Nat → Prop) (B : List Nat) (b : Int) : Prop := (B = B0 ∧ b = b0 ∧ ∀ G, X G → b0 ≤ len G) ∨ mn len X B b
section CS
variable {len : List Nat → Int} {B0 B O : List Nat} {b0 b : Int} {X Y : List Nat → Prop}
/-- more orders behind, none shorter -/
theorem cs_skip (h : cs len B0 b0 X B b) (hXY : ∀ G, X G → Y G) (hY : ∀ G, Y G → X G ∨ (b ≤ len G ∧ ∀ H, X H → lx H G)) : cs len B0 b0 Y B b := by
  rcases h with ⟨h1, h2, h3⟩ | h
  · refine Or.inl ⟨h1, h2, fun G hG => ?_⟩
    rcases hY G hG with h4 | h4
    · exact h3 G h4
    · rw [← h2]; exact h4.1
  · refine Or.inr ⟨hXY B h.1, h.2.1, fun G hG => ?_⟩
    rcases hY G hG with h4 | ⟨h4, h5⟩
    · exact h.2.2 G h4
    · have := h5 B h.1
      by_cases e : b = len G
      · exact Or.inr ⟨e, Or.inr this⟩
      · exact Or.inl (by omega)
theorem cs_take (h : cs len B0 b0 X B b) (hO : len O < b) (hY : ∀ G, Y G ↔ X G ∨ G = O) : cs len B0 b0 Y O (len O) := by
  refine Or.inr ⟨(hY O).mpr (Or.inr rfl), rfl, fun G hG => ?_⟩
  rcases (hY G).mp hG with h1 | h1
  · refine Or.inl ?_
    rcases h with ⟨-, h2, h3⟩ | h
    · have := h3 G h1; omega
    · rcases h.2.2 G h1 with h2 | ⟨h2, -⟩ <;> omega
  · exact Or.inr ⟨by rw [h1], Or.inl h1.symm⟩
end CS
section OA
variable {v : Nat → Nat → Int} {β : Nat → Int} {now : Int} {S : List Nat}
/-- an order that can be driven -/
def fe (v : Nat → Nat → Int) (β : Nat → Int) (now : Int) (G : List Nat) : Prop := pl_ah G G 0 = false ∧ pl_fault v G (β 6) (β 7) now (β 9) (β 1) (β 3) (β 4) (β 8) = 0
def ln (v : Nat → Nat → Int) (β : Nat → Int) (G : List Nat) : Int := pl_len v (β 3) (β 4) G (β 6) (β 7)
theorem oa_best (hS : nd_L S) (hS6 : S.length ≤ 6) {B0 : List Nat} {b0 : Int} : ∀ (n : Nat) {O B F : List Nat} {b : Int} (_ : oa_R v β now n O B b F) (_ : pm_L S O) (_ : 720 ≤ n + rk O) (_ : cs (ln v β) B0 b0 (fun G => pm_L S G ∧ fe v β now G ∧ lx G O) B b), ∃ b2, cs (ln v β) B0 b0 (fun G => pm_L S G ∧ fe v β now G) F b2
  | 0, O, B, F, b, _, hO, hn, _ => by
    have := rk_720 (G := O) (by rw [hO.1]; exact hS6)
    omega
  | n + 1, O, B, F, b, h, hO, hn, hc => by
    have key : cs (ln v β) B0 b0 (fun G => pm_L S G ∧ fe v β now G ∧ (lx G O ∨ G = O)) (oa_t v β now O B b).1 (oa_t v β now O B b).2 := by
      unfold oa_t
      split
      · rename_i hc2
        refine cs_take hc hc2.1 (fun G => ⟨fun hG => ?_, fun hG => ?_⟩)
        · rcases hG.2.2 with h1 | h1
          · exact Or.inl ⟨hG.1, hG.2.1, h1⟩
          · exact Or.inr h1
        · rcases hG with h1 | h1
          · exact ⟨h1.1, h1.2.1, Or.inl h1.2.2⟩
          · exact ⟨h1 ▸ hO, h1 ▸ ⟨by simpa using hc2.2.1, hc2.2.2⟩, Or.inr h1⟩
      · rename_i hc2
        refine cs_skip hc (fun G hG => ⟨hG.1, hG.2.1, Or.inl hG.2.2⟩) (fun G hG => ?_)
        rcases hG.2.2 with h1 | h1
        · exact Or.inl ⟨hG.1, hG.2.1, h1⟩
        · refine Or.inr ⟨?_, fun H hH => h1 ▸ hH.2.2⟩
          subst h1
          by_cases hlt : ln v β G < b
          · exact absurd ⟨hlt, by rw [hG.2.1.1]; decide, hG.2.1.2⟩ hc2
          · omega
    rcases h with ⟨h1, h2⟩ | ⟨O2, h1, h2⟩
    · refine ⟨(oa_t v β now O B b).2, ?_⟩
      rw [h2]
      refine cs_skip key (fun G hG => ⟨hG.1, hG.2.1⟩) (fun G hG => Or.inl ⟨hG.1, hG.2, ?_⟩)
      have hp : pm_L O G := pm_trans (pm_sym hS hO) hG.1
      rcases lx_to (G := G) (H := O) (by rw [hp.1]) with h3 | h3 | h3
      · exact Or.inl h3
      · exact Or.inr h3
      · exact absurd h3 (nx_end h1 hp)
    · have hO2 : pm_L S O2 := pm_trans hO h1.1
      have hr := rk_up hO.2.1 hO2.2.1 h1.1.1.symm (fun z => (h1.1.2.2 z).symm) (nx_lx h1)
      refine oa_best hS hS6 n h2 hO2 (by omega) (cs_skip key (fun G hG => ⟨hG.1, hG.2.1, ?_⟩) (fun G hG => Or.inl ⟨hG.1, hG.2.1, ?_⟩))
      · rcases hG.2.2 with h3 | h3
        · exact lx_tr (by rw [hG.1.1, hO.1]) h3 (nx_lx h1)
        · rw [h3]; exact nx_lx h1
      · have hp : pm_L O G := pm_trans (pm_sym hS hO) hG.1
        rcases lx_to (G := G) (H := O) (by rw [hp.1]) with h3 | h3 | h3
        · exact Or.inl h3
        · exact Or.inr h3
        · exact (nx_next h1 hp h3 hG.2.2).elim
theorem cs_0 (hS : nd_L S) {O1 : List Nat} (hO : so_P true 0 S O1) {b : Int} : cs (ln v β) S b (fun G => pm_L S G ∧ fe v β now G ∧ lx G O1) S b :=
  Or.inl ⟨rfl, rfl, fun G hG => absurd hG.2.2 (so_first hO hS hG.1)⟩
theorem cs_mn (hf : fe v β now S) (hS : nd_L S) {F : List Nat} {b2 : Int} (h : cs (ln v β) S (ln v β S + 1) (fun G => pm_L S G ∧ fe v β now G) F b2) : mn (ln v β) (fun G => pm_L S G ∧ fe v β now G) F b2 := by
  rcases h with ⟨-, -, h⟩ | h
  · have := h S ⟨pm_refl hS, hf⟩
    omega
  · exact h
theorem oa_first (hS : nd_L S) (hS6 : S.length ≤ 6) (hf : fe v β now S) {O1 F : List Nat} (hO : so_P true 0 S O1) (h : oa_R v β now 720 O1 S (ln v β S + 1) F) : ∃ b2, mn (ln v β) (fun G => pm_L S G ∧ fe v β now G) F b2 := by
  obtain ⟨b2, h2⟩ := oa_best (B0 := S) (b0 := ln v β S + 1) hS hS6 720 h hO.1 (by omega) (cs_0 hS hO)
  exact ⟨b2, cs_mn hf hS h2⟩
end OA
