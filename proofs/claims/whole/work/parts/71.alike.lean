/-! What a call of the class and a call of the model come to. -/
/-- the class's answer -/
def zq (ad : Nat → Nat) (f : Nat → Nat → Int) (w2 : Nat × Nat × Int64 × UInt64) (oc0 : Option Value ⊕ String) (a2 : Nat → Nat → Int) (TS2 : Nat → List Nat) : ab_P := fun oc x ad1 z => x = ab_x4 ∧ z.2 = w2 ∧ oc = oc0 ∧ CL z.1 a2 TS2 w2.1 w2.2.1 ∧ kM f z.1 ∧ ∀ o, (o = 0 ∨ o = 40 ∨ o = 90 ∨ o = 91) → ad1 o = ad o
/-- the model's answer -/
def zm (ad : Nat → Nat) (f : Nat → Nat → Int) (w : Nat × Nat × Int64 × UInt64) (v : Value) (k : Nat) (a2 : Nat → Nat → Int) (TS2 : Nat → List Nat) : ab_P := fun oc x ad1 z => x = ab_x4 ∧ ad1 = ad ∧ z.2 = w ∧ oc = .inl (some v) ∧ ML z.1 a2 TS2 w.1 w.2.1 ∧ kC f z.1 ∧ z.1 40 0 = (k : Int)
def Cz (l : Launch) (E : ab_E) (base : Nat) (y : MethodName) (cc : ByteArray) (nL : Nat) (ret : Option FieldType) (as : List Value) (ad : Nat → Nat) (f : Nat → Nat → Int) (w w2 : Nat × Nat × Int64 × UInt64) (oc0 : Option Value ⊕ String) (a2 : Nat → Nat → Int) (TS2 : Nat → List Nat) : Prop :=
  ∃ (d mc ms : Nat) (Post : ab_P), (d ≤ 11 ∧ mc ≤ 4 ∧ ms ≤ 130) ∧ ab_M l E base y cc nL ret d mc ms as ab_x4 ad (f, w) Post ∧ ∀ oc x ad1 z, Post oc x ad1 z → zq ad f w2 oc0 a2 TS2 oc x ad1 z
def Mz (l : Launch) (E : ab_E) (base : Nat) (y : MethodName) (cc : ByteArray) (nL : Nat) (ret : Option FieldType) (as : List Value) (ad : Nat → Nat) (f : Nat → Nat → Int) (w : Nat × Nat × Int64 × UInt64) (v : Value) (k : Nat) (a2 : Nat → Nat → Int) (TS2 : Nat → List Nat) : Prop :=
  ∃ (d : Nat) (Post : ab_P), d ≤ 16 ∧ ab_M l E base y cc nL ret d 0 0 as ab_x4 ad (f, w) Post ∧ ∀ oc x ad1 z, Post oc x ad1 z → zm ad f w v k a2 TS2 oc x ad1 z
/-- the answer by its number -/
def oX (xs : List String) (k : Nat) (u : Int) : Option Value ⊕ String := if k = 0 then .inl (some (ii_v u)) else .inr (xs.getD (k - 1) "")
/-- what holds before a call -/
def IS (f a : Nat → Nat → Int) (TS : Nat → List Nat) (nb nr : Nat) (tm : Int) : Prop := CL f a TS nb nr ∧ ML f a TS nb nr ∧ ST a TS nb nr tm ∧ tm ≤ 90000
/-- both calls come to the same -/
def ZZ (l : Launch) (E : ab_E) (base : Nat) (yC : MethodName) (cC : ByteArray) (nC : Nat) (rC : Option FieldType) (yM : MethodName) (cM : ByteArray) (nM : Nat) (rM : Option FieldType) (ad : Nat → Nat) (f a : Nat → Nat → Int) (TS : Nat → List Nat) (nb nr : Nat) (tm : Int) (ol : Int64 × UInt64) (as : List Value) (xs : List String) : Prop :=
  ∃ (k : Nat) (u v : Int) (a2 : Nat → Nat → Int) (TS2 : Nat → List Nat) (nb2 nr2 : Nat), ST a2 TS2 nb2 nr2 (tm + 60) ∧ (k = 0 → v = u) ∧ k ≤ xs.length ∧ Cz l E base yC cC nC rC (.ref (ad 0) :: as) ad f (nb, nr, ol) (nb2, nr2, ol) (oX xs k u) a2 TS2 ∧
    ∀ (ad1 : Nat → Nat) (g : Nat → Nat → Int) (ol2 : Int64 × UInt64), CL g a2 TS2 nb2 nr2 → ML g a TS nb nr → Mz l E base yM cM nM rM (.ref (ad1 40) :: as) ad1 g (nb2, nr2, ol2) (ii_v v) k a2 TS2
theorem st_60 {a : Nat → Nat → Int} {TS : Nat → List Nat} {nb nr : Nat} {tm : Int} (h : ST a TS nb nr tm) : ST a TS nb nr (tm + 60) := ⟨bs_tm h.1 (by omega), h.2⟩
section ZL
variable {l : Launch} {E : ab_E} {base : Nat} {y : MethodName} {cc : ByteArray} {nL d mc ms : Nat} {ret : Option FieldType} {as : List Value} {ad : Nat → Nat} {f a : Nat → Nat → Int} {TS : Nat → List Nat} {w : Nat × Nat × Int64 × UInt64} {u : Int} {xs : List String} {X : String}
theorem kM_refl : kM f f := fun _ _ _ => rfl
theorem CL_s {g : Nat → Nat → Int} {nb nr : Nat} (h : CL f a TS nb nr) (hk : ∀ o, (o = 0 ∨ (4 ≤ o ∧ o ≤ 8) ∨ 40 ≤ o) → g o = f o) : CL g a TS nb nr ∧ kM f g := by
  obtain ⟨h1, h2, h3⟩ := h
  refine ⟨⟨fun o ho => (hk o (by omega)).trans (h1 o ho), fun b hb => ts_same (h2 b hb) (hk _ (by omega)) (hk _ (by omega)), by rw [hk _ (by omega)]; exact h3⟩, fun o h _ => hk o (by omega)⟩
theorem cz_R (hM : ab_M l E base y cc nL ret d mc ms as ab_x4 ad (f, w) (ab_R (ii_v u) ab_x4 ad (f, w))) (hd : d ≤ 11 ∧ mc ≤ 4 ∧ ms ≤ 130) (hC : CL f a TS w.1 w.2.1) : Cz l E base y cc nL ret as ad f w w (oX xs 0 u) a TS :=
  ⟨d, mc, ms, _, hd, hM, fun oc x ad1 z h => by
    obtain ⟨h1, h2, h3, h4⟩ := h
    subst h2 h3 h4
    exact ⟨rfl, rfl, h1, hC, kM_refl, fun _ _ => rfl⟩⟩
theorem cz_T {k : Nat} (hM : ab_M l E base y cc nL ret d mc ms as ab_x4 ad (f, w) (ab_T X ab_x4 ad (f, w))) (hd : (d ≤ 11 ∧ mc ≤ 4 ∧ ms ≤ 130) ∧ k ≠ 0 ∧ xs.getD (k - 1) "" = X) (hC : CL f a TS w.1 w.2.1) : Cz l E base y cc nL ret as ad f w w (oX xs k u) a TS :=
  ⟨d, mc, ms, _, hd.1, hM, fun oc x ad1 z h => by
    obtain ⟨h1, h2, h3, h4⟩ := h
    subst h2 h3 h4
    refine ⟨rfl, rfl, ?_, hC, kM_refl, fun _ _ => rfl⟩
    rw [h1, oX, if_neg hd.2.1, hd.2.2]⟩
/-- only rows that do not count change -/
theorem cz_S {P : Option Value → (Nat → Nat → Int) → Prop} (hM : ab_M l E base y cc nL ret d mc ms as ab_x4 ad (f, w) (ab_F ad w P)) (hd : d ≤ 11 ∧ mc ≤ 4 ∧ ms ≤ 130) (hC : CL f a TS w.1 w.2.1) (hP : ∀ ov g, P ov g → ov = some (ii_v u) ∧ ∀ o, (o = 0 ∨ (4 ≤ o ∧ o ≤ 8) ∨ 40 ≤ o) → g o = f o) : Cz l E base y cc nL ret as ad f w w (oX xs 0 u) a TS :=
  ⟨d, mc, ms, _, hd, hM, fun oc x ad1 z h => by
    obtain ⟨h1, h2, h3, ov, h4, h5⟩ := h
    obtain ⟨h6, h7⟩ := hP _ _ h5
    obtain ⟨h8, h9⟩ := CL_s hC h7
    subst h1 h2
    refine ⟨rfl, h3, ?_, h8, h9, fun _ _ => rfl⟩
    rw [h4, h6]
    rfl⟩
theorem mz_R {v : Int} {k : Nat} (hM : ab_M l E base y cc nL ret d 0 0 as ab_x4 ad (f, w) (ab_R (ii_v v) ab_x4 ad (ii_up f 40 0 (k : Int), w))) (hd : d ≤ 16) (hL : ML f a TS w.1 w.2.1) : Mz l E base y cc nL ret as ad f w (ii_v v) k a TS :=
  ⟨d, _, hd, hM, fun oc x ad1 z h => by
    obtain ⟨h1, h2, h3, h4⟩ := h
    subst h2 h3 h4
    exact ⟨rfl, rfl, rfl, h1, ML_0 hL (by decide), fun o ho => ii_up_row _ _ (by omega), ii_up_s f 40 0 (k : Int)⟩⟩
theorem ML_F {g : Nat → Nat → Int} {nb nr : Nat} (h : ML f a TS nb nr) (hF : ml_F f g) : ML g a TS nb nr ∧ kC f g := by
  obtain ⟨hR, hT, hF2⟩ := h
  obtain ⟨h1, h2⟩ := hF
  refine ⟨⟨mr_cong hR (fun o ho => h1 o (by omega) (by omega) (by omega)) (fun i hi1 hi2 => h2 i (by omega) (by omega)), fun b hb => ?_, fun b hb hb4 => by rw [h1 51 (by decide) (by decide) (by decide)]; exact hF2 b hb hb4⟩, fun o ho => h1 o (by omega) (by omega) (by omega)⟩
  have := hT b hb
  unfold mt_I at this ⊢
  rw [h1 51 (by decide) (by decide) (by decide), h1 52 (by decide) (by decide) (by decide)]
  exact this
theorem mz_L {P : Option Value → (Nat → Nat → Int) → Prop} {k : Nat} (hM : ab_M l E base y cc nL ret d 0 0 as ab_x4 ad (f, w) (ab_F ad w P)) (hd : d ≤ 16) (hL : ML f a TS w.1 w.2.1) (hP : ∀ ov g, P ov g → ov = some (ii_v u) ∧ g 40 0 = (k : Int) ∧ ml_F f g) : Mz l E base y cc nL ret as ad f w (ii_v u) k a TS :=
  ⟨d, _, hd, hM, fun oc x ad1 z h => by
    obtain ⟨h1, h2, h3, ov, h4, h5⟩ := h
    obtain ⟨h6, h7, h8⟩ := hP _ _ h5
    obtain ⟨h9, h10⟩ := ML_F hL h8
    subst h1 h2
    refine ⟨rfl, rfl, h3, ?_, h9, h10, h7⟩
    rw [h4, h6]⟩
end ZL
theorem nd_ix {S : List Nat} {k : Nat} (h : nd_L S) (hk : k < S.length) : S.idxOf (S.getD k 0) = k := by
  have h1 := gd_idx (d := 0) (gd_mem (S := S) (d := 0) hk)
  exact h _ _ h1.1 hk h1.2
theorem bq_refl {β : Nat → Int} : bq β β := ⟨rfl, rfl, rfl, rfl, rfl, rfl, rfl⟩
theorem sg_4 (u : Int) : sg_f u = 115 ∨ sg_f u = 119 ∨ sg_f u = 100 ∨ sg_f u = 98 := by
  unfold sg_f
  split
  · exact Or.inr (Or.inl rfl)
  · split
    · exact Or.inr (Or.inr (Or.inl rfl))
    · split
      · exact Or.inr (Or.inr (Or.inr rfl))
      · exact Or.inl rfl
theorem z_x {l : Launch} {E : ab_E} {base : Nat} (hl : l.stackTraces = false) {ad : Nat → Nat} {f a : Nat → Nat → Int} {TS : Nat → List Nat} {nb nr : Nat} {tm : Int} {ol : Int64 × UInt64} (hI : IS f a TS nb nr tm) (i : Int) (zi : -2147483648 ≤ i ∧ i < 2147483648) : ZZ l E base yX9_x cX9_x 2 (some .int) yX10_x cX10_x 2 (some .int) ad f a TS nb nr tm ol [ii_v i] ["java/lang/IndexOutOfBoundsException"] := by
  obtain ⟨hC, hL, hS, htm⟩ := hI
  have hB := hS.1
  have h4 := hB.1
  have h30 := hB.2.1
  have h06 := hB.2.2.1
  by_cases hi : 0 ≤ i ∧ i < (nb : Int)
  · obtain ⟨b, rfl⟩ : ∃ b : Nat, i = (b : Int) := ⟨i.toNat, by omega⟩
    have hb : b < nb := by omega
    have hpb := hS.2 b hb
    have hm := hL.1.2.1 b hb
    refine ⟨0, (a (200 + b) 6), (a (200 + b) 6), a, TS, nb, nr, st_60 hS, fun _ => rfl, by decide, cz_R (u := (a (200 + b) 6)) (by have hh := c_bus_x (E := E) (base := base) (ad := ad) hl f (nb, nr, ol) hb h4; rw [cl_bus hC hb] at hh; exact hh) (by decide) hC, fun ad1 g ol2 hC2 hL2 => ?_⟩
    have h29 := hL2.1.1.1
    have hm2 := hL2.1.2.1 b hb
    have hh := m_x (E := E) (base := base) (ad := ad1) hl g (nb, nr, ol2) b (by rw [h29]; omega) (by rw [h29]; omega)
    rw [hm2.2.2.2.1] at hh
    exact mz_R hh (by decide) hL2
  · refine ⟨1, 0, 0, a, TS, nb, nr, st_60 hS, fun _ => rfl, by decide, cz_T (x_bus_x hl f (nb, nr, ol) h4 i zi (by dsimp only; omega)) (by decide) hC, fun ad1 g ol2 hC2 hL2 => ?_⟩
    have h29 := hL2.1.1.1
    exact mz_R (n_x hl g (nb, nr, ol2) i zi (by rw [h29]; omega) (by rw [h29]; omega)) (by decide) hL2
theorem z_y {l : Launch} {E : ab_E} {base : Nat} (hl : l.stackTraces = false) {ad : Nat → Nat} {f a : Nat → Nat → Int} {TS : Nat → List Nat} {nb nr : Nat} {tm : Int} {ol : Int64 × UInt64} (hI : IS f a TS nb nr tm) (i : Int) (zi : -2147483648 ≤ i ∧ i < 2147483648) : ZZ l E base yX9_y cX9_y 2 (some .int) yX10_y cX10_y 2 (some .int) ad f a TS nb nr tm ol [ii_v i] ["java/lang/IndexOutOfBoundsException"] := by
  obtain ⟨hC, hL, hS, htm⟩ := hI
  have hB := hS.1
  have h4 := hB.1
  have h30 := hB.2.1
  have h06 := hB.2.2.1
  by_cases hi : 0 ≤ i ∧ i < (nb : Int)
  · obtain ⟨b, rfl⟩ : ∃ b : Nat, i = (b : Int) := ⟨i.toNat, by omega⟩
    have hb : b < nb := by omega
    have hpb := hS.2 b hb
    have hm := hL.1.2.1 b hb
    refine ⟨0, (a (200 + b) 7), (a (200 + b) 7), a, TS, nb, nr, st_60 hS, fun _ => rfl, by decide, cz_R (u := (a (200 + b) 7)) (by have hh := c_bus_y (E := E) (base := base) (ad := ad) hl f (nb, nr, ol) hb h4; rw [cl_bus hC hb] at hh; exact hh) (by decide) hC, fun ad1 g ol2 hC2 hL2 => ?_⟩
    have h29 := hL2.1.1.1
    have hm2 := hL2.1.2.1 b hb
    have hh := m_y (E := E) (base := base) (ad := ad1) hl g (nb, nr, ol2) b (by rw [h29]; omega) (by rw [h29]; omega)
    rw [hm2.2.2.2.2.1] at hh
    exact mz_R hh (by decide) hL2
  · refine ⟨1, 0, 0, a, TS, nb, nr, st_60 hS, fun _ => rfl, by decide, cz_T (x_bus_y hl f (nb, nr, ol) h4 i zi (by dsimp only; omega)) (by decide) hC, fun ad1 g ol2 hC2 hL2 => ?_⟩
    have h29 := hL2.1.1.1
    exact mz_R (n_y hl g (nb, nr, ol2) i zi (by rw [h29]; omega) (by rw [h29]; omega)) (by decide) hL2
theorem z_charge {l : Launch} {E : ab_E} {base : Nat} (hl : l.stackTraces = false) {ad : Nat → Nat} {f a : Nat → Nat → Int} {TS : Nat → List Nat} {nb nr : Nat} {tm : Int} {ol : Int64 × UInt64} (hI : IS f a TS nb nr tm) (i : Int) (zi : -2147483648 ≤ i ∧ i < 2147483648) : ZZ l E base yX9_charge cX9_charge 2 (some .int) yX10_charge cX10_charge 2 (some .int) ad f a TS nb nr tm ol [ii_v i] ["java/lang/IndexOutOfBoundsException"] := by
  obtain ⟨hC, hL, hS, htm⟩ := hI
  have hB := hS.1
  have h4 := hB.1
  have h30 := hB.2.1
  have h06 := hB.2.2.1
  by_cases hi : 0 ≤ i ∧ i < (nb : Int)
  · obtain ⟨b, rfl⟩ : ∃ b : Nat, i = (b : Int) := ⟨i.toNat, by omega⟩
    have hb : b < nb := by omega
    have hpb := hS.2 b hb
    have hm := hL.1.2.1 b hb
    refine ⟨0, (a (200 + b) 8), (a (200 + b) 8), a, TS, nb, nr, st_60 hS, fun _ => rfl, by decide, cz_R (u := (a (200 + b) 8)) (by have hh := c_bus_charge (E := E) (base := base) (ad := ad) hl f (nb, nr, ol) hb h4; rw [cl_bus hC hb] at hh; exact hh) (by decide) hC, fun ad1 g ol2 hC2 hL2 => ?_⟩
    have h29 := hL2.1.1.1
    have hm2 := hL2.1.2.1 b hb
    have hh := m_charge (E := E) (base := base) (ad := ad1) hl g (nb, nr, ol2) b (by rw [h29]; omega) (by rw [h29]; omega)
    rw [hm2.2.2.1] at hh
    exact mz_R hh (by decide) hL2
  · refine ⟨1, 0, 0, a, TS, nb, nr, st_60 hS, fun _ => rfl, by decide, cz_T (x_bus_charge hl f (nb, nr, ol) h4 i zi (by dsimp only; omega)) (by decide) hC, fun ad1 g ol2 hC2 hL2 => ?_⟩
    have h29 := hL2.1.1.1
    exact mz_R (n_charge hl g (nb, nr, ol2) i zi (by rw [h29]; omega) (by rw [h29]; omega)) (by decide) hL2
theorem z_driven {l : Launch} {E : ab_E} {base : Nat} (hl : l.stackTraces = false) {ad : Nat → Nat} {f a : Nat → Nat → Int} {TS : Nat → List Nat} {nb nr : Nat} {tm : Int} {ol : Int64 × UInt64} (hI : IS f a TS nb nr tm) (i : Int) (zi : -2147483648 ≤ i ∧ i < 2147483648) : ZZ l E base yX9_driven cX9_driven 2 (some .int) yX10_driven cX10_driven 2 (some .int) ad f a TS nb nr tm ol [ii_v i] ["java/lang/IndexOutOfBoundsException"] := by
  obtain ⟨hC, hL, hS, htm⟩ := hI
  have hB := hS.1
  have h4 := hB.1
  have h30 := hB.2.1
  have h06 := hB.2.2.1
  by_cases hi : 0 ≤ i ∧ i < (nb : Int)
  · obtain ⟨b, rfl⟩ : ∃ b : Nat, i = (b : Int) := ⟨i.toNat, by omega⟩
    have hb : b < nb := by omega
    have hpb := hS.2 b hb
    have hm := hL.1.2.1 b hb
    refine ⟨0, (a (200 + b) 10), (a (200 + b) 10), a, TS, nb, nr, st_60 hS, fun _ => rfl, by decide, cz_R (u := (a (200 + b) 10)) (by have hh := c_bus_driven (E := E) (base := base) (ad := ad) hl f (nb, nr, ol) hb h4; rw [cl_bus hC hb] at hh; exact hh) (by decide) hC, fun ad1 g ol2 hC2 hL2 => ?_⟩
    have h29 := hL2.1.1.1
    have hm2 := hL2.1.2.1 b hb
    have hh := m_driven (E := E) (base := base) (ad := ad1) hl g (nb, nr, ol2) b (by rw [h29]; omega) (by rw [h29]; omega)
    rw [hm2.2.2.2.2.2.2.2.1] at hh
    exact mz_R hh (by decide) hL2
  · refine ⟨1, 0, 0, a, TS, nb, nr, st_60 hS, fun _ => rfl, by decide, cz_T (x_bus_driven hl f (nb, nr, ol) h4 i zi (by dsimp only; omega)) (by decide) hC, fun ad1 g ol2 hC2 hL2 => ?_⟩
    have h29 := hL2.1.1.1
    exact mz_R (n_driven hl g (nb, nr, ol2) i zi (by rw [h29]; omega) (by rw [h29]; omega)) (by decide) hL2
theorem z_empty {l : Launch} {E : ab_E} {base : Nat} (hl : l.stackTraces = false) {ad : Nat → Nat} {f a : Nat → Nat → Int} {TS : Nat → List Nat} {nb nr : Nat} {tm : Int} {ol : Int64 × UInt64} (hI : IS f a TS nb nr tm) (i : Int) (zi : -2147483648 ≤ i ∧ i < 2147483648) : ZZ l E base yX9_empty cX9_empty 2 (some .int) yX10_empty cX10_empty 2 (some .int) ad f a TS nb nr tm ol [ii_v i] ["java/lang/IndexOutOfBoundsException"] := by
  obtain ⟨hC, hL, hS, htm⟩ := hI
  have hB := hS.1
  have h4 := hB.1
  have h30 := hB.2.1
  have h06 := hB.2.2.1
  by_cases hi : 0 ≤ i ∧ i < (nb : Int)
  · obtain ⟨b, rfl⟩ : ∃ b : Nat, i = (b : Int) := ⟨i.toNat, by omega⟩
    have hb : b < nb := by omega
    have hpb := hS.2 b hb
    have hm := hL.1.2.1 b hb
    refine ⟨0, (a (200 + b) 11), (a (200 + b) 11), a, TS, nb, nr, st_60 hS, fun _ => rfl, by decide, cz_R (u := (a (200 + b) 11)) (by have hh := c_bus_empty (E := E) (base := base) (ad := ad) hl f (nb, nr, ol) hb h4; rw [cl_bus hC hb] at hh; exact hh) (by decide) hC, fun ad1 g ol2 hC2 hL2 => ?_⟩
    have h29 := hL2.1.1.1
    have hm2 := hL2.1.2.1 b hb
    have hh := m_empty (E := E) (base := base) (ad := ad1) hl g (nb, nr, ol2) b (by rw [h29]; omega) (by rw [h29]; omega)
    rw [hm2.2.2.2.2.2.2.2.2.1] at hh
    exact mz_R hh (by decide) hL2
  · refine ⟨1, 0, 0, a, TS, nb, nr, st_60 hS, fun _ => rfl, by decide, cz_T (x_bus_empty hl f (nb, nr, ol) h4 i zi (by dsimp only; omega)) (by decide) hC, fun ad1 g ol2 hC2 hL2 => ?_⟩
    have h29 := hL2.1.1.1
    exact mz_R (n_empty hl g (nb, nr, ol2) i zi (by rw [h29]; omega) (by rw [h29]; omega)) (by decide) hL2
theorem z_status {l : Launch} {E : ab_E} {base : Nat} (hl : l.stackTraces = false) {ad : Nat → Nat} {f a : Nat → Nat → Int} {TS : Nat → List Nat} {nb nr : Nat} {tm : Int} {ol : Int64 × UInt64} (hI : IS f a TS nb nr tm) (i : Int) (zi : -2147483648 ≤ i ∧ i < 2147483648) : ZZ l E base yX9_status cX9_status 2 (some .char) yX10_status cX10_status 2 (some .char) ad f a TS nb nr tm ol [ii_v i] ["java/lang/IndexOutOfBoundsException"] := by
  obtain ⟨hC, hL, hS, htm⟩ := hI
  have hB := hS.1
  have h4 := hB.1
  have h30 := hB.2.1
  have h06 := hB.2.2.1
  by_cases hi : 0 ≤ i ∧ i < (nr : Int)
  · obtain ⟨r, rfl⟩ : ∃ r : Nat, i = (r : Int) := ⟨i.toNat, by omega⟩
    have hr : r < nr := by omega
    have hq := hB.2.2.2.2.2.2.1 r hr
    have hfr := cl_req hC hr
    refine ⟨0, (a (300 + r) 8), (a (300 + r) 8), a, TS, nb, nr, st_60 hS, fun _ => rfl, by decide, cz_R (u := (a (300 + r) 8)) (by have hh := c_status (E := E) (base := base) (ad := ad) hl f (nb, nr, ol) h30 r hr (by rw [hfr]; exact hq.1); rw [hfr] at hh; exact hh) (by decide) hC, fun ad1 g ol2 hC2 hL2 => ?_⟩
    have h30b := hL2.1.1.2.1
    obtain ⟨⟨m0, m1, m2, m3, m4, m5, m6⟩, ⟨m8, m11, m12⟩, m10, m9⟩ := hL2.1.2.2.2.1 r hr
    have hh := m_status (E := E) (base := base) (ad := ad1) hl g (nb, nr, ol2) r (by rw [h30b]; omega) (by rw [h30b]; omega) (by rw [m8]; exact hq.1)
    rw [m8] at hh
    exact mz_R hh (by decide) hL2
  · refine ⟨1, 0, 0, a, TS, nb, nr, st_60 hS, fun _ => rfl, by decide, cz_T (x_status hl f (nb, nr, ol) h30 i zi (by dsimp only; omega)) (by decide) hC, fun ad1 g ol2 hC2 hL2 => ?_⟩
    have h30b := hL2.1.1.2.1
    exact mz_R (n_status hl g (nb, nr, ol2) i zi (by rw [h30b]; omega) (by rw [h30b]; omega)) (by decide) hL2
theorem z_latestPickup {l : Launch} {E : ab_E} {base : Nat} (hl : l.stackTraces = false) {ad : Nat → Nat} {f a : Nat → Nat → Int} {TS : Nat → List Nat} {nb nr : Nat} {tm : Int} {ol : Int64 × UInt64} (hI : IS f a TS nb nr tm) (i : Int) (zi : -2147483648 ≤ i ∧ i < 2147483648) : ZZ l E base yX9_latestPickup cX9_latestPickup 2 (some .int) yX10_latestPickup cX10_latestPickup 2 (some .int) ad f a TS nb nr tm ol [ii_v i] ["java/lang/IndexOutOfBoundsException"] := by
  obtain ⟨hC, hL, hS, htm⟩ := hI
  have hB := hS.1
  have h4 := hB.1
  have h30 := hB.2.1
  have h06 := hB.2.2.1
  by_cases hi : 0 ≤ i ∧ i < (nr : Int)
  · obtain ⟨r, rfl⟩ : ∃ r : Nat, i = (r : Int) := ⟨i.toNat, by omega⟩
    have hr : r < nr := by omega
    have hq := hB.2.2.2.2.2.2.1 r hr
    have hfr := cl_req hC hr
    refine ⟨0, (a (300 + r) 6), (a (300 + r) 6), a, TS, nb, nr, st_60 hS, fun _ => rfl, by decide, cz_R (u := (a (300 + r) 6)) (by have hh := c_latestPickup (E := E) (base := base) (ad := ad) hl f (nb, nr, ol) h30 r hr; rw [hfr] at hh; exact hh) (by decide) hC, fun ad1 g ol2 hC2 hL2 => ?_⟩
    have h30b := hL2.1.1.2.1
    obtain ⟨⟨m0, m1, m2, m3, m4, m5, m6⟩, ⟨m8, m11, m12⟩, m10, m9⟩ := hL2.1.2.2.2.1 r hr
    have hh := m_latestPickup (E := E) (base := base) (ad := ad1) hl g (nb, nr, ol2) r (by rw [h30b]; omega) (by rw [h30b]; omega)
    rw [m5] at hh
    exact mz_R hh (by decide) hL2
  · refine ⟨1, 0, 0, a, TS, nb, nr, st_60 hS, fun _ => rfl, by decide, cz_T (x_latestPickup hl f (nb, nr, ol) h30 i zi (by dsimp only; omega)) (by decide) hC, fun ad1 g ol2 hC2 hL2 => ?_⟩
    have h30b := hL2.1.1.2.1
    exact mz_R (n_latestPickup hl g (nb, nr, ol2) i zi (by rw [h30b]; omega) (by rw [h30b]; omega)) (by decide) hL2
theorem z_longestRide {l : Launch} {E : ab_E} {base : Nat} (hl : l.stackTraces = false) {ad : Nat → Nat} {f a : Nat → Nat → Int} {TS : Nat → List Nat} {nb nr : Nat} {tm : Int} {ol : Int64 × UInt64} (hI : IS f a TS nb nr tm) (i : Int) (zi : -2147483648 ≤ i ∧ i < 2147483648) : ZZ l E base yX9_longestRide cX9_longestRide 2 (some .int) yX10_longestRide cX10_longestRide 2 (some .int) ad f a TS nb nr tm ol [ii_v i] ["java/lang/IndexOutOfBoundsException"] := by
  obtain ⟨hC, hL, hS, htm⟩ := hI
  have hB := hS.1
  have h4 := hB.1
  have h30 := hB.2.1
  have h06 := hB.2.2.1
  by_cases hi : 0 ≤ i ∧ i < (nr : Int)
  · obtain ⟨r, rfl⟩ : ∃ r : Nat, i = (r : Int) := ⟨i.toNat, by omega⟩
    have hr : r < nr := by omega
    have hq := hB.2.2.2.2.2.2.1 r hr
    have hfr := cl_req hC hr
    refine ⟨0, (a (300 + r) 7), (a (300 + r) 7), a, TS, nb, nr, st_60 hS, fun _ => rfl, by decide, cz_R (u := (a (300 + r) 7)) (by have hh := c_longestRide (E := E) (base := base) (ad := ad) hl f (nb, nr, ol) h30 r hr; rw [hfr] at hh; exact hh) (by decide) hC, fun ad1 g ol2 hC2 hL2 => ?_⟩
    have h30b := hL2.1.1.2.1
    obtain ⟨⟨m0, m1, m2, m3, m4, m5, m6⟩, ⟨m8, m11, m12⟩, m10, m9⟩ := hL2.1.2.2.2.1 r hr
    have hh := m_longestRide (E := E) (base := base) (ad := ad1) hl g (nb, nr, ol2) r (by rw [h30b]; omega) (by rw [h30b]; omega)
    rw [m6] at hh
    exact mz_R hh (by decide) hL2
  · refine ⟨1, 0, 0, a, TS, nb, nr, st_60 hS, fun _ => rfl, by decide, cz_T (x_longestRide hl f (nb, nr, ol) h30 i zi (by dsimp only; omega)) (by decide) hC, fun ad1 g ol2 hC2 hL2 => ?_⟩
    have h30b := hL2.1.1.2.1
    exact mz_R (n_longestRide hl g (nb, nr, ol2) i zi (by rw [h30b]; omega) (by rw [h30b]; omega)) (by decide) hL2
theorem z_entryBus {l : Launch} {E : ab_E} {base : Nat} (hl : l.stackTraces = false) {ad : Nat → Nat} {f a : Nat → Nat → Int} {TS : Nat → List Nat} {nb nr : Nat} {tm : Int} {ol : Int64 × UInt64} (hI : IS f a TS nb nr tm) (i : Int) (zi : -2147483648 ≤ i ∧ i < 2147483648) : ZZ l E base yX9_entryBus cX9_entryBus 2 (some .int) yX10_entryBus cX10_entryBus 2 (some .int) ad f a TS nb nr tm ol [ii_v i] ["java/lang/IndexOutOfBoundsException"] := by
  obtain ⟨hC, hL, hS, htm⟩ := hI
  have hB := hS.1
  have h4 := hB.1
  have h30 := hB.2.1
  have h06 := hB.2.2.1
  obtain ⟨ne, hjo, hsl⟩ := hB.2.2.2.2.2.2.2.2.2
  have h44 : f 4 4 = (ne : Int) := by rw [hC.1 4 (by omega)]; exact hjo.1
  by_cases hi : 0 ≤ i ∧ i < (ne : Int)
  · obtain ⟨k, rfl⟩ : ∃ k : Nat, i = (k : Int) := ⟨i.toNat, by omega⟩
    refine ⟨0, (a 5 k), (a 5 k), a, TS, nb, nr, st_60 hS, fun _ => rfl, by decide, cz_R (u := (a 5 k)) (by have hh := c_entryBus (E := E) (base := base) (ad := ad) hl f (nb, nr, ol) ne h44 (by omega) k (by omega); rw [hC.1 5 (by omega)] at hh; exact hh) (by decide) hC, fun ad1 g ol2 hC2 hL2 => ?_⟩
    have h31 : g 40 31 = (ne : Int) := hL2.1.1.2.2.1.trans hjo.1
    obtain ⟨p5, p6, p7, p8⟩ := hL2.1.2.2.2.2.2.2 k (by rw [hjo.1]; omega)
    have hh := m_entryBus (E := E) (base := base) (ad := ad1) hl g (nb, nr, ol2) k (by rw [h31]; omega) (by rw [h31]; omega)
    rw [p5] at hh
    exact mz_R hh (by decide) hL2
  · refine ⟨1, 0, 0, a, TS, nb, nr, st_60 hS, fun _ => rfl, by decide, cz_T (x_entryBus hl f (nb, nr, ol) ne h44 (by omega) i zi (by omega)) (by decide) hC, fun ad1 g ol2 hC2 hL2 => ?_⟩
    have h31 : g 40 31 = (ne : Int) := hL2.1.1.2.2.1.trans hjo.1
    exact mz_R (n_entryBus hl g (nb, nr, ol2) i zi (by rw [h31]; omega) (by rw [h31]; omega)) (by decide) hL2
theorem z_entryRequest {l : Launch} {E : ab_E} {base : Nat} (hl : l.stackTraces = false) {ad : Nat → Nat} {f a : Nat → Nat → Int} {TS : Nat → List Nat} {nb nr : Nat} {tm : Int} {ol : Int64 × UInt64} (hI : IS f a TS nb nr tm) (i : Int) (zi : -2147483648 ≤ i ∧ i < 2147483648) : ZZ l E base yX9_entryRequest cX9_entryRequest 2 (some .int) yX10_entryRequest cX10_entryRequest 2 (some .int) ad f a TS nb nr tm ol [ii_v i] ["java/lang/IndexOutOfBoundsException"] := by
  obtain ⟨hC, hL, hS, htm⟩ := hI
  have hB := hS.1
  have h4 := hB.1
  have h30 := hB.2.1
  have h06 := hB.2.2.1
  obtain ⟨ne, hjo, hsl⟩ := hB.2.2.2.2.2.2.2.2.2
  have h44 : f 4 4 = (ne : Int) := by rw [hC.1 4 (by omega)]; exact hjo.1
  by_cases hi : 0 ≤ i ∧ i < (ne : Int)
  · obtain ⟨k, rfl⟩ : ∃ k : Nat, i = (k : Int) := ⟨i.toNat, by omega⟩
    refine ⟨0, (a 6 k), (a 6 k), a, TS, nb, nr, st_60 hS, fun _ => rfl, by decide, cz_R (u := (a 6 k)) (by have hh := c_entryRequest (E := E) (base := base) (ad := ad) hl f (nb, nr, ol) ne h44 (by omega) k (by omega); rw [hC.1 6 (by omega)] at hh; exact hh) (by decide) hC, fun ad1 g ol2 hC2 hL2 => ?_⟩
    have h31 : g 40 31 = (ne : Int) := hL2.1.1.2.2.1.trans hjo.1
    obtain ⟨p5, p6, p7, p8⟩ := hL2.1.2.2.2.2.2.2 k (by rw [hjo.1]; omega)
    have hh := m_entryRequest (E := E) (base := base) (ad := ad1) hl g (nb, nr, ol2) k (by rw [h31]; omega) (by rw [h31]; omega)
    rw [p6] at hh
    exact mz_R hh (by decide) hL2
  · refine ⟨1, 0, 0, a, TS, nb, nr, st_60 hS, fun _ => rfl, by decide, cz_T (x_entryRequest hl f (nb, nr, ol) ne h44 (by omega) i zi (by omega)) (by decide) hC, fun ad1 g ol2 hC2 hL2 => ?_⟩
    have h31 : g 40 31 = (ne : Int) := hL2.1.1.2.2.1.trans hjo.1
    exact mz_R (n_entryRequest hl g (nb, nr, ol2) i zi (by rw [h31]; omega) (by rw [h31]; omega)) (by decide) hL2
theorem z_entryTime {l : Launch} {E : ab_E} {base : Nat} (hl : l.stackTraces = false) {ad : Nat → Nat} {f a : Nat → Nat → Int} {TS : Nat → List Nat} {nb nr : Nat} {tm : Int} {ol : Int64 × UInt64} (hI : IS f a TS nb nr tm) (i : Int) (zi : -2147483648 ≤ i ∧ i < 2147483648) : ZZ l E base yX9_entryTime cX9_entryTime 2 (some .int) yX10_entryTime cX10_entryTime 2 (some .int) ad f a TS nb nr tm ol [ii_v i] ["java/lang/IndexOutOfBoundsException"] := by
  obtain ⟨hC, hL, hS, htm⟩ := hI
  have hB := hS.1
  have h4 := hB.1
  have h30 := hB.2.1
  have h06 := hB.2.2.1
  obtain ⟨ne, hjo, hsl⟩ := hB.2.2.2.2.2.2.2.2.2
  have h44 : f 4 4 = (ne : Int) := by rw [hC.1 4 (by omega)]; exact hjo.1
  by_cases hi : 0 ≤ i ∧ i < (ne : Int)
  · obtain ⟨k, rfl⟩ : ∃ k : Nat, i = (k : Int) := ⟨i.toNat, by omega⟩
    refine ⟨0, (a 7 k), (a 7 k), a, TS, nb, nr, st_60 hS, fun _ => rfl, by decide, cz_R (u := (a 7 k)) (by have hh := c_entryTime (E := E) (base := base) (ad := ad) hl f (nb, nr, ol) ne h44 (by omega) k (by omega); rw [hC.1 7 (by omega)] at hh; exact hh) (by decide) hC, fun ad1 g ol2 hC2 hL2 => ?_⟩
    have h31 : g 40 31 = (ne : Int) := hL2.1.1.2.2.1.trans hjo.1
    obtain ⟨p5, p6, p7, p8⟩ := hL2.1.2.2.2.2.2.2 k (by rw [hjo.1]; omega)
    have hh := m_entryTime (E := E) (base := base) (ad := ad1) hl g (nb, nr, ol2) k (by rw [h31]; omega) (by rw [h31]; omega)
    rw [p7] at hh
    exact mz_R hh (by decide) hL2
  · refine ⟨1, 0, 0, a, TS, nb, nr, st_60 hS, fun _ => rfl, by decide, cz_T (x_entryTime hl f (nb, nr, ol) ne h44 (by omega) i zi (by omega)) (by decide) hC, fun ad1 g ol2 hC2 hL2 => ?_⟩
    have h31 : g 40 31 = (ne : Int) := hL2.1.1.2.2.1.trans hjo.1
    exact mz_R (n_entryTime hl g (nb, nr, ol2) i zi (by rw [h31]; omega) (by rw [h31]; omega)) (by decide) hL2
theorem z_entryDistance {l : Launch} {E : ab_E} {base : Nat} (hl : l.stackTraces = false) {ad : Nat → Nat} {f a : Nat → Nat → Int} {TS : Nat → List Nat} {nb nr : Nat} {tm : Int} {ol : Int64 × UInt64} (hI : IS f a TS nb nr tm) (i : Int) (zi : -2147483648 ≤ i ∧ i < 2147483648) : ZZ l E base yX9_entryDistance cX9_entryDistance 2 (some .int) yX10_entryDistance cX10_entryDistance 2 (some .int) ad f a TS nb nr tm ol [ii_v i] ["java/lang/IndexOutOfBoundsException"] := by
  obtain ⟨hC, hL, hS, htm⟩ := hI
  have hB := hS.1
  have h4 := hB.1
  have h30 := hB.2.1
  have h06 := hB.2.2.1
  obtain ⟨ne, hjo, hsl⟩ := hB.2.2.2.2.2.2.2.2.2
  have h44 : f 4 4 = (ne : Int) := by rw [hC.1 4 (by omega)]; exact hjo.1
  by_cases hi : 0 ≤ i ∧ i < (ne : Int)
  · obtain ⟨k, rfl⟩ : ∃ k : Nat, i = (k : Int) := ⟨i.toNat, by omega⟩
    refine ⟨0, (a 8 k), (a 8 k), a, TS, nb, nr, st_60 hS, fun _ => rfl, by decide, cz_R (u := (a 8 k)) (by have hh := c_entryDistance (E := E) (base := base) (ad := ad) hl f (nb, nr, ol) ne h44 (by omega) k (by omega); rw [hC.1 8 (by omega)] at hh; exact hh) (by decide) hC, fun ad1 g ol2 hC2 hL2 => ?_⟩
    have h31 : g 40 31 = (ne : Int) := hL2.1.1.2.2.1.trans hjo.1
    obtain ⟨p5, p6, p7, p8⟩ := hL2.1.2.2.2.2.2.2 k (by rw [hjo.1]; omega)
    have hh := m_entryDistance (E := E) (base := base) (ad := ad1) hl g (nb, nr, ol2) k (by rw [h31]; omega) (by rw [h31]; omega)
    rw [p8] at hh
    exact mz_R hh (by decide) hL2
  · refine ⟨1, 0, 0, a, TS, nb, nr, st_60 hS, fun _ => rfl, by decide, cz_T (x_entryDistance hl f (nb, nr, ol) ne h44 (by omega) i zi (by omega)) (by decide) hC, fun ad1 g ol2 hC2 hL2 => ?_⟩
    have h31 : g 40 31 = (ne : Int) := hL2.1.1.2.2.1.trans hjo.1
    exact mz_R (n_entryDistance hl g (nb, nr, ol2) i zi (by rw [h31]; omega) (by rw [h31]; omega)) (by decide) hL2
theorem z_onBoard {l : Launch} {E : ab_E} {base : Nat} (hl : l.stackTraces = false) {ad : Nat → Nat} {f a : Nat → Nat → Int} {TS : Nat → List Nat} {nb nr : Nat} {tm : Int} {ol : Int64 × UInt64} (hI : IS f a TS nb nr tm) (i : Int) (zi : -2147483648 ≤ i ∧ i < 2147483648) : ZZ l E base yX9_onBoard cX9_onBoard 2 (some .int) yX10_onBoard cX10_onBoard 2 (some .int) ad f a TS nb nr tm ol [ii_v i] ["java/lang/IndexOutOfBoundsException"] := by
  obtain ⟨hC, hL, hS, htm⟩ := hI
  have hB := hS.1
  have h4 := hB.1
  have h30 := hB.2.1
  have h06 := hB.2.2.1
  by_cases hi : 0 ≤ i ∧ i < (nb : Int)
  · obtain ⟨b, rfl⟩ : ∃ b : Nat, i = (b : Int) := ⟨i.toNat, by omega⟩
    have hb : b < nb := by omega
    have hpb := hS.2 b hb
    refine ⟨0, (a (200 + b) 9), (a (200 + b) 9), a, TS, nb, nr, st_60 hS, fun _ => rfl, by decide, cz_R (u := (a (200 + b) 9)) (by have hh := c_bus_onBoard (E := E) (base := base) (ad := ad) hl f (nb, nr, ol) hb h4; rw [cl_bus hC hb] at hh; exact hh) (by decide) hC, fun ad1 g ol2 hC2 hL2 => ?_⟩
    have h29 := hL2.1.1.1
    have hh := m_onBoard (E := E) (base := base) (ad := ad1) hl g (nb, nr, ol2) b (by rw [h29]; omega) (by rw [h29]; omega) nr hL2.1.1.2.1 h30 (mr_rid hL2.1 hB)
    rw [mr_ob hL2.1 nr (Nat.le_refl _), ← hB.2.2.2.2.2.2.2.2.1 b hb] at hh
    exact mz_R hh (by decide) hL2
  · refine ⟨1, 0, 0, a, TS, nb, nr, st_60 hS, fun _ => rfl, by decide, cz_T (x_bus_onBoard hl f (nb, nr, ol) h4 i zi (by dsimp only; omega)) (by decide) hC, fun ad1 g ol2 hC2 hL2 => ?_⟩
    have h29 := hL2.1.1.1
    exact mz_R (n_onBoard hl g (nb, nr, ol2) i zi (by rw [h29]; omega) (by rw [h29]; omega)) (by decide) hL2
theorem z_emptyByJournal {l : Launch} {E : ab_E} {base : Nat} (hl : l.stackTraces = false) {ad : Nat → Nat} {f a : Nat → Nat → Int} {TS : Nat → List Nat} {nb nr : Nat} {tm : Int} {ol : Int64 × UInt64} (hI : IS f a TS nb nr tm) (i : Int) (zi : -2147483648 ≤ i ∧ i < 2147483648) : ZZ l E base yX9_emptyByJournal cX9_emptyByJournal 3 (some .int) yX10_emptyByJournal cX10_emptyByJournal 2 (some .int) ad f a TS nb nr tm ol [ii_v i] ["java/lang/IndexOutOfBoundsException"] := by
  obtain ⟨hC, hL, hS, htm⟩ := hI
  have hB := hS.1
  have h4 := hB.1
  have h30 := hB.2.1
  have h06 := hB.2.2.1
  obtain ⟨ne, hjo, hsl⟩ := hB.2.2.2.2.2.2.2.2.2
  have h44 : f 4 4 = (ne : Int) := by rw [hC.1 4 (by omega)]; exact hjo.1
  by_cases hi : 0 ≤ i ∧ i < (nb : Int)
  · obtain ⟨b, rfl⟩ : ∃ b : Nat, i = (b : Int) := ⟨i.toNat, by omega⟩
    have hb : b < nb := by omega
    have hpb := hS.2 b hb
    have hjd : jd_f f (vC f) (b : Int) ne = jd_f a (vC a) (b : Int) ne := jd_cg ne (fun k hk => by rw [hC.1 5 (by omega), hC.1 6 (by omega), hC.1 8 (by omega)]; have h6 := (hjo.2.1 k hk).2; exact ⟨rfl, rfl, rfl, ((cl_cg hC).2 _ (by dsimp only; omega)).1⟩)
    refine ⟨0, (a (200 + b) 11), (a (200 + b) 11), a, TS, nb, nr, st_60 hS, fun _ => rfl, by decide, cz_R (u := (a (200 + b) 11)) (by have hh := c_emptyByJournal (E := E) (base := base) (ad := ad) hl f (nb, nr, ol) h30 (cl_pe hC hB (by omega)) hb h4 ne h44 (by omega) (fun k hk => by rw [hC.1 5 (by omega)]; have := (hjo.2.1 k hk).1; omega) (fun k hk => by rw [hC.1 6 (by omega)]; have := (hjo.2.1 k hk).2; dsimp only; omega) (by rw [cl_bus hC hb]; exact (hB.2.2.2.2.2.1 b hb).1); rw [hjd, cl_bus hC hb, ← (hjo.2.2.2 b hb).2] at hh; exact hh) (by decide) hC, fun ad1 g ol2 hC2 hL2 => ?_⟩
    have h29 := hL2.1.1.1
    have hm2 := hL2.1.2.1 b hb
    have hh := m_emptyByJournal (E := E) (base := base) (ad := ad1) hl g (nb, nr, ol2) b (by rw [h29]; omega) (by rw [h29]; omega)
    rw [hm2.2.2.2.2.2.2.2.2.1] at hh
    exact mz_R hh (by decide) hL2
  · refine ⟨1, 0, 0, a, TS, nb, nr, st_60 hS, fun _ => rfl, by decide, cz_T (x_emptyByJournal hl f (nb, nr, ol) h4 i zi (by dsimp only; omega)) (by decide) hC, fun ad1 g ol2 hC2 hL2 => ?_⟩
    have h29 := hL2.1.1.1
    exact mz_R (n_emptyByJournal hl g (nb, nr, ol2) i zi (by rw [h29]; omega) (by rw [h29]; omega)) (by decide) hL2
theorem z_stops {l : Launch} {E : ab_E} {base : Nat} (hl : l.stackTraces = false) {ad : Nat → Nat} {f a : Nat → Nat → Int} {TS : Nat → List Nat} {nb nr : Nat} {tm : Int} {ol : Int64 × UInt64} (hI : IS f a TS nb nr tm) (i : Int) (zi : -2147483648 ≤ i ∧ i < 2147483648) : ZZ l E base yX9_stops cX9_stops 2 (some .int) yX10_stops cX10_stops 2 (some .int) ad f a TS nb nr tm ol [ii_v i] ["java/lang/IndexOutOfBoundsException"] := by
  obtain ⟨hC, hL, hS, htm⟩ := hI
  have hB := hS.1
  have h4 := hB.1
  have h30 := hB.2.1
  have h06 := hB.2.2.1
  by_cases hi : 0 ≤ i ∧ i < (nb : Int)
  · obtain ⟨b, rfl⟩ : ∃ b : Nat, i = (b : Int) := ⟨i.toNat, by omega⟩
    have hb : b < nb := by omega
    have hpb := hS.2 b hb
    refine ⟨0, ((TS b).length : Int), ((TS b).length : Int), a, TS, nb, nr, st_60 hS, fun _ => rfl, by decide, cz_R (u := ((TS b).length : Int)) (c_stops hl f (nb, nr, ol) hb h4 (hC.2.1 b hb)) (by decide) hC, fun ad1 g ol2 hC2 hL2 => ?_⟩
    have h29 := hL2.1.1.1
    have hh := m_stops (E := E) (base := base) (ad := ad1) hl g (nb, nr, ol2) b (by rw [h29]; omega) (by rw [h29]; omega)
    rw [(hL2.2.1 b hb).1] at hh
    exact mz_R hh (by decide) hL2
  · refine ⟨1, 0, 0, a, TS, nb, nr, st_60 hS, fun _ => rfl, by decide, cz_T (x_stops hl f (nb, nr, ol) h4 i zi (by dsimp only; omega)) (by decide) hC, fun ad1 g ol2 hC2 hL2 => ?_⟩
    have h29 := hL2.1.1.1
    exact mz_R (n_stops hl g (nb, nr, ol2) i zi (by rw [h29]; omega) (by rw [h29]; omega)) (by decide) hL2
theorem z_stopRequest {l : Launch} {E : ab_E} {base : Nat} (hl : l.stackTraces = false) {ad : Nat → Nat} {f a : Nat → Nat → Int} {TS : Nat → List Nat} {nb nr : Nat} {tm : Int} {ol : Int64 × UInt64} (hI : IS f a TS nb nr tm) (i j : Int) (zi : -2147483648 ≤ i ∧ i < 2147483648) (zj : -2147483648 ≤ j ∧ j < 2147483648) : ZZ l E base yX9_stopRequest cX9_stopRequest 4 (some .int) yX10_stopRequest cX10_stopRequest 3 (some .int) ad f a TS nb nr tm ol [ii_v i, ii_v j] ["java/lang/IndexOutOfBoundsException", "java/util/NoSuchElementException"] := by
  obtain ⟨hC, hL, hS, htm⟩ := hI
  have hB := hS.1
  have h4 := hB.1
  have h30 := hB.2.1
  have h06 := hB.2.2.1
  by_cases hi : 0 ≤ i ∧ i < (nb : Int)
  · obtain ⟨b, rfl⟩ : ∃ b : Nat, i = (b : Int) := ⟨i.toNat, by omega⟩
    have hb : b < nb := by omega
    have hpb := hS.2 b hb
    by_cases hj : 0 ≤ j ∧ j < ((TS b).length : Int)
    · obtain ⟨k, rfl⟩ : ∃ k : Nat, j = (k : Int) := ⟨j.toNat, by omega⟩
      refine ⟨0, ((((TS b).getD k 0 / 2 : Nat) : Int)), ((((TS b).getD k 0 / 2 : Nat) : Int)), a, TS, nb, nr, st_60 hS, fun _ => rfl, by decide, cz_R (u := ((((TS b).getD k 0 / 2 : Nat) : Int))) (c_stopRequest hl f (nb, nr, ol) hb h4 (hC.2.1 b hb) k (by omega)) (by decide) hC, fun ad1 g ol2 hC2 hL2 => ?_⟩
      have h29 := hL2.1.1.1
      exact mz_R (m_stopRequest hl g (nb, nr, ol2) b (by rw [h29]; omega) (by rw [h29]; omega) (hL2.2.1 b hb) k (by omega)) (by decide) hL2
    · refine ⟨2, 0, 0, a, TS, nb, nr, st_60 hS, fun _ => rfl, by decide, cz_T (x2_stopRequest hl f (nb, nr, ol) hb h4 (hC.2.1 b hb) j zj (by omega)) (by decide) hC, fun ad1 g ol2 hC2 hL2 => ?_⟩
      have h29 := hL2.1.1.1
      exact mz_R (n2_stopRequest hl g (nb, nr, ol2) b (by rw [h29]; omega) (by rw [h29]; omega) (hL2.2.1 b hb) j zj (by omega)) (by decide) hL2
  · refine ⟨1, 0, 0, a, TS, nb, nr, st_60 hS, fun _ => rfl, by decide, cz_T (x_stopRequest hl f (nb, nr, ol) h4 i zi (by dsimp only; omega) j) (by decide) hC, fun ad1 g ol2 hC2 hL2 => ?_⟩
    have h29 := hL2.1.1.1
    exact mz_R (n_stopRequest hl g (nb, nr, ol2) i zi (by rw [h29]; omega) (by rw [h29]; omega) j) (by decide) hL2
theorem z_isPickup {l : Launch} {E : ab_E} {base : Nat} (hl : l.stackTraces = false) {ad : Nat → Nat} {f a : Nat → Nat → Int} {TS : Nat → List Nat} {nb nr : Nat} {tm : Int} {ol : Int64 × UInt64} (hI : IS f a TS nb nr tm) (i j : Int) (zi : -2147483648 ≤ i ∧ i < 2147483648) (zj : -2147483648 ≤ j ∧ j < 2147483648) : ZZ l E base yX9_isPickup cX9_isPickup 4 (some .boolean) yX10_isPickup cX10_isPickup 3 (some .boolean) ad f a TS nb nr tm ol [ii_v i, ii_v j] ["java/lang/IndexOutOfBoundsException", "java/util/NoSuchElementException"] := by
  obtain ⟨hC, hL, hS, htm⟩ := hI
  have hB := hS.1
  have h4 := hB.1
  have h30 := hB.2.1
  have h06 := hB.2.2.1
  by_cases hi : 0 ≤ i ∧ i < (nb : Int)
  · obtain ⟨b, rfl⟩ : ∃ b : Nat, i = (b : Int) := ⟨i.toNat, by omega⟩
    have hb : b < nb := by omega
    have hpb := hS.2 b hb
    by_cases hj : 0 ≤ j ∧ j < ((TS b).length : Int)
    · obtain ⟨k, rfl⟩ : ∃ k : Nat, j = (k : Int) := ⟨j.toNat, by omega⟩
      refine ⟨0, (if (TS b).getD k 0 % 2 = 0 then 1 else 0), (if (TS b).getD k 0 % 2 = 0 then 1 else 0), a, TS, nb, nr, st_60 hS, fun _ => rfl, by decide, cz_R (u := (if (TS b).getD k 0 % 2 = 0 then 1 else 0)) (c_isPickup hl f (nb, nr, ol) hb h4 (hC.2.1 b hb) k (by omega)) (by decide) hC, fun ad1 g ol2 hC2 hL2 => ?_⟩
      have h29 := hL2.1.1.1
      exact mz_R (m_isPickup hl g (nb, nr, ol2) b (by rw [h29]; omega) (by rw [h29]; omega) (hL2.2.1 b hb) k (by omega)) (by decide) hL2
    · refine ⟨2, 0, 0, a, TS, nb, nr, st_60 hS, fun _ => rfl, by decide, cz_T (x2_isPickup hl f (nb, nr, ol) hb h4 (hC.2.1 b hb) j zj (by omega)) (by decide) hC, fun ad1 g ol2 hC2 hL2 => ?_⟩
      have h29 := hL2.1.1.1
      exact mz_R (n2_isPickup hl g (nb, nr, ol2) b (by rw [h29]; omega) (by rw [h29]; omega) (hL2.2.1 b hb) j zj (by omega)) (by decide) hL2
  · refine ⟨1, 0, 0, a, TS, nb, nr, st_60 hS, fun _ => rfl, by decide, cz_T (x_isPickup hl f (nb, nr, ol) h4 i zi (by dsimp only; omega) j) (by decide) hC, fun ad1 g ol2 hC2 hL2 => ?_⟩
    have h29 := hL2.1.1.1
    exact mz_R (n_isPickup hl g (nb, nr, ol2) i zi (by rw [h29]; omega) (by rw [h29]; omega) j) (by decide) hL2
theorem z_stopTime {l : Launch} {E : ab_E} {base : Nat} (hl : l.stackTraces = false) {ad : Nat → Nat} {f a : Nat → Nat → Int} {TS : Nat → List Nat} {nb nr : Nat} {tm : Int} {ol : Int64 × UInt64} (hI : IS f a TS nb nr tm) (i j : Int) (zi : -2147483648 ≤ i ∧ i < 2147483648) (zj : -2147483648 ≤ j ∧ j < 2147483648) : ZZ l E base yX9_stopTime cX9_stopTime 4 (some .int) yX10_stopTime cX10_stopTime 3 (some .int) ad f a TS nb nr tm ol [ii_v i, ii_v j] ["java/lang/IndexOutOfBoundsException", "java/util/NoSuchElementException"] := by
  obtain ⟨hC, hL, hS, htm⟩ := hI
  have hB := hS.1
  have h4 := hB.1
  have h30 := hB.2.1
  have h06 := hB.2.2.1
  by_cases hi : 0 ≤ i ∧ i < (nb : Int)
  · obtain ⟨b, rfl⟩ : ∃ b : Nat, i = (b : Int) := ⟨i.toNat, by omega⟩
    have hb : b < nb := by omega
    have hpb := hS.2 b hb
    have hRb := tr_R (hB.2.2.2.2.2.2.2.1 b hb)
    by_cases hj : 0 ≤ j ∧ j < ((TS b).length : Int)
    · obtain ⟨k, rfl⟩ : ∃ k : Nat, j = (k : Int) := ⟨j.toNat, by omega⟩
      have hix : (TS b).idxOf ((TS b).getD k 0) = k := nd_ix (hB.2.2.2.2.2.2.2.1 b hb).1 (by omega)
      refine ⟨0, ((pl_tm (vC a) (TS b) (a (200 + b) 6) (a (200 + b) 7) (a 0 6)).getD k 0), ((pl_tm (vC a) (TS b) (a (200 + b) 6) (a (200 + b) 7) (a 0 6)).getD k 0), a, TS, nb, nr, st_60 hS, fun _ => rfl, by decide, cz_S (u := ((pl_tm (vC a) (TS b) (a (200 + b) 6) (a (200 + b) 7) (a 0 6)).getD k 0)) (c_stopTime hl f (nb, nr, ol) h30 (cl_pe hC hB (by omega)) hb h4 (cl_pb hC hB hb (ch_0 hpb.1)) (hC.2.1 b hb) (fun j hj => Nat.le_of_lt (tr_q hB hb j hj)) (by rw [hC.1 0 (by omega)]; omega) k (by omega)) (by decide) hC (fun ov g hP => ⟨by rw [hP.1, hix, cl_bus hC hb, hC.1 0 (by omega), cg_tm (cl_cg hC) hRb], fun o h1 => hP.2 o (by omega)⟩), fun ad1 g ol2 hC2 hL2 => ?_⟩
      have h29 := hL2.1.1.1
      have hm2 := hL2.1.2.1 b hb
      refine mz_L (u := ((pl_tm (vC a) (TS b) (a (200 + b) 6) (a (200 + b) 7) (a 0 6)).getD k 0)) (m_stopTime hl g (nb, nr, ol2) b (by rw [h29]; omega) (by rw [h29]; omega) (mr_pj hL2.1 hB (by omega)) (mr_pk hL2.1 hB hb hpb.1) (hL2.2.1 b hb) (fault_c.mp hpb.1).1 (fun j hj => by have := tr_q hB hb j hj; omega) (by rw [hL2.1.1.2.2.2.1]; omega) k (by omega)) (by decide) hL2 (fun ov h hP => ⟨?_, hP.2.1, hP.2.2⟩)
      rw [hP.1, hm2.2.2.2.1, hm2.2.2.2.2.1, hL2.1.1.2.2.2.1, cg_tm (mr_cg hL2.1) hRb]
    · refine ⟨2, 0, 0, a, TS, nb, nr, st_60 hS, fun _ => rfl, by decide, cz_T (x2_stopTime hl f (nb, nr, ol) hb h4 (hC.2.1 b hb) j zj (by omega)) (by decide) hC, fun ad1 g ol2 hC2 hL2 => ?_⟩
      have h29 := hL2.1.1.1
      exact mz_R (n2_stopTime hl g (nb, nr, ol2) b (by rw [h29]; omega) (by rw [h29]; omega) (hL2.2.1 b hb) j zj (by omega)) (by decide) hL2
  · refine ⟨1, 0, 0, a, TS, nb, nr, st_60 hS, fun _ => rfl, by decide, cz_T (x_stopTime hl f (nb, nr, ol) h4 i zi (by dsimp only; omega) j) (by decide) hC, fun ad1 g ol2 hC2 hL2 => ?_⟩
    have h29 := hL2.1.1.1
    exact mz_R (n_stopTime hl g (nb, nr, ol2) i zi (by rw [h29]; omega) (by rw [h29]; omega) j) (by decide) hL2
theorem z_length {l : Launch} {E : ab_E} {base : Nat} (hl : l.stackTraces = false) {ad : Nat → Nat} {f a : Nat → Nat → Int} {TS : Nat → List Nat} {nb nr : Nat} {tm : Int} {ol : Int64 × UInt64} (hI : IS f a TS nb nr tm) (i : Int) (zi : -2147483648 ≤ i ∧ i < 2147483648) : ZZ l E base yX9_length cX9_length 3 (some .int) yX10_length cX10_length 2 (some .int) ad f a TS nb nr tm ol [ii_v i] ["java/lang/IndexOutOfBoundsException"] := by
  obtain ⟨hC, hL, hS, htm⟩ := hI
  have hB := hS.1
  have h4 := hB.1
  have h30 := hB.2.1
  have h06 := hB.2.2.1
  by_cases hi : 0 ≤ i ∧ i < (nb : Int)
  · obtain ⟨b, rfl⟩ : ∃ b : Nat, i = (b : Int) := ⟨i.toNat, by omega⟩
    have hb : b < nb := by omega
    have hpb := hS.2 b hb
    have hRb := tr_R (hB.2.2.2.2.2.2.2.1 b hb)
    refine ⟨0, (pl_len (vC a) (a (200 + b) 3) (a (200 + b) 4) (TS b) (a (200 + b) 6) (a (200 + b) 7)), (pl_len (vC a) (a (200 + b) 3) (a (200 + b) 4) (TS b) (a (200 + b) 6) (a (200 + b) 7)), a, TS, nb, nr, st_60 hS, fun _ => rfl, by decide, cz_R (u := (pl_len (vC a) (a (200 + b) 3) (a (200 + b) 4) (TS b) (a (200 + b) 6) (a (200 + b) 7))) (by have hh := c_length (E := E) (base := base) (ad := ad) hl f (nb, nr, ol) h30 (cl_pe hC hB (by omega)) hb h4 (cl_pb hC hB hb (ch_0 hpb.1)) (hC.2.1 b hb) (fun j hj => Nat.le_of_lt (tr_q hB hb j hj)); rw [cl_bus hC hb, cg_len (cl_cg hC) hRb] at hh; exact hh) (by decide) hC, fun ad1 g ol2 hC2 hL2 => ?_⟩
    have h29 := hL2.1.1.1
    have hm2 := hL2.1.2.1 b hb
    refine mz_L (u := (pl_len (vC a) (a (200 + b) 3) (a (200 + b) 4) (TS b) (a (200 + b) 6) (a (200 + b) 7))) (m_length hl g (nb, nr, ol2) b (by rw [h29]; omega) (by rw [h29]; omega) (mr_pj hL2.1 hB (by omega)) (mr_pk hL2.1 hB hb hpb.1) (hL2.2.1 b hb) (fault_c.mp hpb.1).1 (fun j hj => by have := tr_q hB hb j hj; omega) (by rw [hL2.1.1.2.2.2.1]; omega)) (by decide) hL2 (fun ov h hP => ⟨?_, hP.2.1, hP.2.2⟩)
    rw [hP.1, hm2.2.2.2.1, hm2.2.2.2.2.1, hm2.2.2.2.2.2.1, hm2.2.2.2.2.2.2.1, cg_len (mr_cg hL2.1) hRb]
  · refine ⟨1, 0, 0, a, TS, nb, nr, st_60 hS, fun _ => rfl, by decide, cz_T (x_length hl f (nb, nr, ol) h4 i zi (by dsimp only; omega)) (by decide) hC, fun ad1 g ol2 hC2 hL2 => ?_⟩
    have h29 := hL2.1.1.1
    exact mz_R (n_length hl g (nb, nr, ol2) i zi (by rw [h29]; omega) (by rw [h29]; omega)) (by decide) hL2
theorem z_bestLength {l : Launch} {E : ab_E} {base : Nat} (hl : l.stackTraces = false) {ad : Nat → Nat} {f a : Nat → Nat → Int} {TS : Nat → List Nat} {nb nr : Nat} {tm : Int} {ol : Int64 × UInt64} (hI : IS f a TS nb nr tm) (i : Int) (zi : -2147483648 ≤ i ∧ i < 2147483648) : ZZ l E base yX9_bestLength cX9_bestLength 3 (some .int) yX10_bestLength cX10_bestLength 2 (some .int) ad f a TS nb nr tm ol [ii_v i] ["java/lang/IndexOutOfBoundsException"] := by
  obtain ⟨hC, hL, hS, htm⟩ := hI
  have hB := hS.1
  have h4 := hB.1
  have h30 := hB.2.1
  have h06 := hB.2.2.1
  by_cases hi : 0 ≤ i ∧ i < (nb : Int)
  · obtain ⟨b, rfl⟩ : ∃ b : Nat, i = (b : Int) := ⟨i.toNat, by omega⟩
    have hb : b < nb := by omega
    have hpb := hS.2 b hb
    have htr := hB.2.2.2.2.2.2.2.1 b hb
    have hRb := tr_R htr
    have hnd := htr.1
    have hS6 := (fault_c.mp hpb.1).1
    have hfe : fe (vC a) (a (200 + b)) (a 0 6) (TS b) := ⟨pk_ah htr.2.1, hpb.1⟩
    have hom := om_first (n := nr) hnd (fun z hz => by have := hRb z hz; omega) hfe
    refine ⟨0, (om_f (vC a) (a (200 + b)) (a 0 6) (TS b) nr (TS b).length [] (-1, [])).1, (om_f (vC a) (a (200 + b)) (a 0 6) (TS b) nr (TS b).length [] (-1, [])).1, a, TS, nb, nr, st_60 hS, fun _ => rfl, by decide, cz_S (u := (om_f (vC a) (a (200 + b)) (a 0 6) (TS b) nr (TS b).length [] (-1, [])).1) (c_bestLength hl f (nb, nr, ol) h30 (cl_pe hC hB (by omega)) hb h4 (cl_pb hC hB hb (ch_0 hpb.1)) (hC.2.1 b hb) (fun j hj => Nat.le_of_lt (tr_q hB hb j hj)) hS6 hnd (by rw [hC.1 0 (by omega)]; omega)) (by decide) hC (fun ov g hP => ?_), fun ad1 g ol2 hC2 hL2 => ?_⟩
    · obtain ⟨⟨O1, F, hO1, hov, hpF, hR⟩, hfr⟩ := hP
      rw [cl_bus hC hb, hC.1 0 (by omega)] at hR
      rw [cl_bus hC hb] at hov
      have hRF : ∀ q, q ∈ F → q / 2 < nr := fun q hq => hRb q ((hpF.2.2 q).mp hq)
      rw [cg_len (cl_cg hC) hRF] at hov
      have hfe2 : fe (vC f) (a (200 + b)) (a 0 6) (TS b) := (cg_fe (cl_cg hC) bq_refl hRb).mpr hfe
      obtain ⟨b2, hmn⟩ := oe_first hnd hS6 (bs_9 hB hb).2 (fun q hq => by have := (hB.2.2.2.2.2.2.1 _ (hRb q hq)).2.2.2.2.2.1; show 0 ≤ f (300 + q / 2) 4; rw [cl_req hC (hRb q hq)]; omega) hfe2 hO1 hpF hR
      have hmn2 := cg_mn (cl_cg hC) bq_refl hRb hmn
      have huq := mn_one (fun G hG => hG.1.1) hmn2 hom
      refine ⟨?_, fun o h1 => hfr o (by omega) (by omega) (by omega) (by omega) (by omega) (by omega) (by omega) (by omega)⟩
      rw [hov, ← huq.2, hmn2.2.1]
      rfl
    · have h29 := hL2.1.1.1
      refine mz_L (u := (om_f (vC a) (a (200 + b)) (a 0 6) (TS b) nr (TS b).length [] (-1, [])).1) (m_bestLength hl g (nb, nr, ol2) b (by rw [h29]; omega) (by rw [h29]; omega) (mr_pj hL2.1 hB (by omega)) (mr_pk hL2.1 hB hb hpb.1) (by rw [hL2.1.1.2.2.2.1]; omega) nr hL2.1.1.2.1 h30 (mr_rid hL2.1 hB) (hL2.2.1 b hb) hS6) (by decide) hL2 (fun ov h hP => ⟨?_, hP.2.1, hP.2.2⟩)
      have hfe3 := (cg_fe (mr_cg hL2.1) (mr_bq hL2.1 hB hb) hRb).mpr hfe
      have hom2 := cg_mn (mr_cg hL2.1) (mr_bq hL2.1 hB hb) hRb (om_first (n := nr) hnd (fun z hz => by have := hRb z hz; omega) hfe3)
      rw [hP.1, hL2.1.1.2.2.2.1, (mn_one (fun G hG => hG.1.1) hom2 hom).2]
  · refine ⟨1, 0, 0, a, TS, nb, nr, st_60 hS, fun _ => rfl, by decide, cz_T (x_bestLength hl f (nb, nr, ol) h4 i zi (by dsimp only; omega)) (by decide) hC, fun ad1 g ol2 hC2 hL2 => ?_⟩
    have h29 := hL2.1.1.1
    exact mz_R (n_bestLength hl g (nb, nr, ol2) i zi (by rw [h29]; omega) (by rw [h29]; omega)) (by decide) hL2
theorem z_bestLengthByTrying {l : Launch} {E : ab_E} {base : Nat} (hl : l.stackTraces = false) {ad : Nat → Nat} {f a : Nat → Nat → Int} {TS : Nat → List Nat} {nb nr : Nat} {tm : Int} {ol : Int64 × UInt64} (hI : IS f a TS nb nr tm) (i : Int) (zi : -2147483648 ≤ i ∧ i < 2147483648) : ZZ l E base yX9_bestLengthByTrying cX9_bestLengthByTrying 3 (some .int) yX10_bestLengthByTrying cX10_bestLengthByTrying 2 (some .int) ad f a TS nb nr tm ol [ii_v i] ["java/lang/IndexOutOfBoundsException"] := by
  obtain ⟨hC, hL, hS, htm⟩ := hI
  have hB := hS.1
  have h4 := hB.1
  have h30 := hB.2.1
  have h06 := hB.2.2.1
  by_cases hi : 0 ≤ i ∧ i < (nb : Int)
  · obtain ⟨b, rfl⟩ : ∃ b : Nat, i = (b : Int) := ⟨i.toNat, by omega⟩
    have hb : b < nb := by omega
    have hpb := hS.2 b hb
    have htr := hB.2.2.2.2.2.2.2.1 b hb
    have hRb := tr_R htr
    have hnd := htr.1
    have hS6 := (fault_c.mp hpb.1).1
    have hfe : fe (vC a) (a (200 + b)) (a 0 6) (TS b) := ⟨pk_ah htr.2.1, hpb.1⟩
    have hom := om_first (n := nr) hnd (fun z hz => by have := hRb z hz; omega) hfe
    refine ⟨0, (om_f (vC a) (a (200 + b)) (a 0 6) (TS b) nr (TS b).length [] (-1, [])).1, (om_f (vC a) (a (200 + b)) (a 0 6) (TS b) nr (TS b).length [] (-1, [])).1, a, TS, nb, nr, st_60 hS, fun _ => rfl, by decide, cz_S (u := (om_f (vC a) (a (200 + b)) (a 0 6) (TS b) nr (TS b).length [] (-1, [])).1) (c_bestLengthByTrying hl f (nb, nr, ol) h30 (cl_pe hC hB (by omega)) hb h4 (cl_pb hC hB hb (ch_0 hpb.1)) (hC.2.1 b hb) (fun j hj => Nat.le_of_lt (tr_q hB hb j hj)) hS6 hnd (by rw [hC.1 0 (by omega)]; omega)) (by decide) hC (fun ov g hP => ?_), fun ad1 g ol2 hC2 hL2 => ?_⟩
    · obtain ⟨⟨O1, F, hO1, hov, hpF, hR⟩, hfr⟩ := hP
      rw [cl_bus hC hb, hC.1 0 (by omega)] at hR
      rw [cl_bus hC hb] at hov
      have hRF : ∀ q, q ∈ F → q / 2 < nr := fun q hq => hRb q ((hpF.2.2 q).mp hq)
      rw [cg_len (cl_cg hC) hRF] at hov
      have hfe2 : fe (vC f) (a (200 + b)) (a 0 6) (TS b) := (cg_fe (cl_cg hC) bq_refl hRb).mpr hfe
      obtain ⟨b2, hmn⟩ := oa_first hnd hS6 hfe2 hO1 hR
      have hmn2 := cg_mn (cl_cg hC) bq_refl hRb hmn
      have huq := mn_one (fun G hG => hG.1.1) hmn2 hom
      refine ⟨?_, fun o h1 => hfr o (by omega) (by omega) (by omega) (by omega) (by omega) (by omega) (by omega) (by omega)⟩
      rw [hov, ← huq.2, hmn2.2.1]
      rfl
    · have h29 := hL2.1.1.1
      refine mz_L (u := (om_f (vC a) (a (200 + b)) (a 0 6) (TS b) nr (TS b).length [] (-1, [])).1) (m_bestLengthByTrying hl g (nb, nr, ol2) b (by rw [h29]; omega) (by rw [h29]; omega) (mr_pj hL2.1 hB (by omega)) (mr_pk hL2.1 hB hb hpb.1) (by rw [hL2.1.1.2.2.2.1]; omega) nr hL2.1.1.2.1 h30 (mr_rid hL2.1 hB) (hL2.2.1 b hb) hS6) (by decide) hL2 (fun ov h hP => ⟨?_, hP.2.1, hP.2.2⟩)
      have hfe3 := (cg_fe (mr_cg hL2.1) (mr_bq hL2.1 hB hb) hRb).mpr hfe
      have hom2 := cg_mn (mr_cg hL2.1) (mr_bq hL2.1 hB hb) hRb (om_first (n := nr) hnd (fun z hz => by have := hRb z hz; omega) hfe3)
      rw [hP.1, hL2.1.1.2.2.2.1, (mn_one (fun G hG => hG.1.1) hom2 hom).2]
  · refine ⟨1, 0, 0, a, TS, nb, nr, st_60 hS, fun _ => rfl, by decide, cz_T (x_bestLengthByTrying hl f (nb, nr, ol) h4 i zi (by dsimp only; omega)) (by decide) hC, fun ad1 g ol2 hC2 hL2 => ?_⟩
    have h29 := hL2.1.1.1
    exact mz_R (n_bestLengthByTrying hl g (nb, nr, ol2) i zi (by rw [h29]; omega) (by rw [h29]; omega)) (by decide) hL2
theorem z_reason {l : Launch} {E : ab_E} {base : Nat} (hl : l.stackTraces = false) {ad : Nat → Nat} {f a : Nat → Nat → Int} {TS : Nat → List Nat} {nb nr : Nat} {tm : Int} {ol : Int64 × UInt64} (hI : IS f a TS nb nr tm) (i : Int) (zi : -2147483648 ≤ i ∧ i < 2147483648) : ZZ l E base yX9_reason cX9_reason 3 (some .char) yX10_reason cX10_reason 2 (some .char) ad f a TS nb nr tm ol [ii_v i] ["java/lang/IndexOutOfBoundsException", "java/lang/IllegalStateException"] := by
  obtain ⟨hC, hL, hS, htm⟩ := hI
  have hB := hS.1
  have h4 := hB.1
  have h30 := hB.2.1
  have h06 := hB.2.2.1
  by_cases hi : 0 ≤ i ∧ i < (nr : Int)
  · obtain ⟨r, rfl⟩ : ∃ r : Nat, i = (r : Int) := ⟨i.toNat, by omega⟩
    have hr : r < nr := by omega
    have hq := hB.2.2.2.2.2.2.1 r hr
    have hfr := cl_req hC hr
    by_cases hx : a (300 + r) 8 = 120
    · have h9 := hq.2.2.2.2.2.2.2.2.2.1 hx
      refine ⟨0, (sg_f (a (300 + r) 9)), (sg_f (a (300 + r) 9)), a, TS, nb, nr, st_60 hS, fun _ => rfl, by decide, cz_R (u := (sg_f (a (300 + r) 9))) (by have hh := c_reason (E := E) (base := base) (ad := ad) hl f (nb, nr, ol) h30 r hr (by rw [hfr]; exact hx) (by rw [hfr]; omega); rw [hfr] at hh; exact hh) (by decide) hC, fun ad1 g ol2 hC2 hL2 => ?_⟩
      have h30b := hL2.1.1.2.1
      obtain ⟨⟨m0, m1, m2, m3, m4, m5, m6⟩, ⟨m8, m11, m12⟩, m10, m9⟩ := hL2.1.2.2.2.1 r hr
      have hh := m_reason (E := E) (base := base) (ad := ad1) hl g (nb, nr, ol2) r (by rw [h30b]; omega) (by rw [h30b]; omega) (by rw [m8]; exact hq.1) (by rw [m8]; exact hx) (by rw [m9 hx]; exact sg_4 _)
      rw [m9 hx] at hh
      exact mz_R hh (by decide) hL2
    · refine ⟨2, 0, 0, a, TS, nb, nr, st_60 hS, fun _ => rfl, by decide, cz_T (x2_reason hl f (nb, nr, ol) h30 r hr (by rw [hfr]; exact hq.1) (by rw [hfr]; exact hx)) (by decide) hC, fun ad1 g ol2 hC2 hL2 => ?_⟩
      have h30b := hL2.1.1.2.1
      obtain ⟨⟨m0, m1, m2, m3, m4, m5, m6⟩, ⟨m8, m11, m12⟩, m10, m9⟩ := hL2.1.2.2.2.1 r hr
      exact mz_R (n2_reason hl g (nb, nr, ol2) r (by rw [h30b]; omega) (by rw [h30b]; omega) (by rw [m8]; exact hq.1) (by rw [m8]; exact hx)) (by decide) hL2
  · refine ⟨1, 0, 0, a, TS, nb, nr, st_60 hS, fun _ => rfl, by decide, cz_T (x_reason hl f (nb, nr, ol) h30 i zi (by dsimp only; omega)) (by decide) hC, fun ad1 g ol2 hC2 hL2 => ?_⟩
    have h30b := hL2.1.1.2.1
    exact mz_R (n_reason hl g (nb, nr, ol2) i zi (by rw [h30b]; omega) (by rw [h30b]; omega)) (by decide) hL2
theorem z_busOf {l : Launch} {E : ab_E} {base : Nat} (hl : l.stackTraces = false) {ad : Nat → Nat} {f a : Nat → Nat → Int} {TS : Nat → List Nat} {nb nr : Nat} {tm : Int} {ol : Int64 × UInt64} (hI : IS f a TS nb nr tm) (i : Int) (zi : -2147483648 ≤ i ∧ i < 2147483648) : ZZ l E base yX9_busOf cX9_busOf 3 (some .int) yX10_busOf cX10_busOf 2 (some .int) ad f a TS nb nr tm ol [ii_v i] ["java/lang/IndexOutOfBoundsException", "java/lang/IllegalStateException"] := by
  obtain ⟨hC, hL, hS, htm⟩ := hI
  have hB := hS.1
  have h4 := hB.1
  have h30 := hB.2.1
  have h06 := hB.2.2.1
  by_cases hi : 0 ≤ i ∧ i < (nr : Int)
  · obtain ⟨r, rfl⟩ : ∃ r : Nat, i = (r : Int) := ⟨i.toNat, by omega⟩
    have hr : r < nr := by omega
    have hq := hB.2.2.2.2.2.2.1 r hr
    have hfr := cl_req hC hr
    by_cases hx : a (300 + r) 8 ≠ 120
    · refine ⟨0, (a (300 + r) 10), (a (300 + r) 10), a, TS, nb, nr, st_60 hS, fun _ => rfl, by decide, cz_R (u := (a (300 + r) 10)) (by have hh := c_busOf (E := E) (base := base) (ad := ad) hl f (nb, nr, ol) h30 r hr (by rw [hfr]; exact hq.1) (by rw [hfr]; exact hx); rw [hfr] at hh; exact hh) (by decide) hC, fun ad1 g ol2 hC2 hL2 => ?_⟩
      have h30b := hL2.1.1.2.1
      obtain ⟨⟨m0, m1, m2, m3, m4, m5, m6⟩, ⟨m8, m11, m12⟩, m10, m9⟩ := hL2.1.2.2.2.1 r hr
      have hh := m_busOf (E := E) (base := base) (ad := ad1) hl g (nb, nr, ol2) r (by rw [h30b]; omega) (by rw [h30b]; omega) (by rw [m8]; exact hq.1) (by rw [m8]; exact hx)
      rw [m10 hx] at hh
      exact mz_R hh (by decide) hL2
    · refine ⟨2, 0, 0, a, TS, nb, nr, st_60 hS, fun _ => rfl, by decide, cz_T (x2_busOf hl f (nb, nr, ol) h30 r hr (by rw [hfr]; omega)) (by decide) hC, fun ad1 g ol2 hC2 hL2 => ?_⟩
      have h30b := hL2.1.1.2.1
      obtain ⟨⟨m0, m1, m2, m3, m4, m5, m6⟩, ⟨m8, m11, m12⟩, m10, m9⟩ := hL2.1.2.2.2.1 r hr
      exact mz_R (n2_busOf hl g (nb, nr, ol2) r (by rw [h30b]; omega) (by rw [h30b]; omega) (by rw [m8]; exact hq.1) (by rw [m8]; omega)) (by decide) hL2
  · refine ⟨1, 0, 0, a, TS, nb, nr, st_60 hS, fun _ => rfl, by decide, cz_T (x_busOf hl f (nb, nr, ol) h30 i zi (by dsimp only; omega)) (by decide) hC, fun ad1 g ol2 hC2 hL2 => ?_⟩
    have h30b := hL2.1.1.2.1
    exact mz_R (n_busOf hl g (nb, nr, ol2) i zi (by rw [h30b]; omega) (by rw [h30b]; omega)) (by decide) hL2
