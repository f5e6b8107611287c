/-! What holds at the law's entry. -/
theorem s0_ar {args : Array Value} {s : State} {ty : FieldType} (h : (Cond.arrayClass ty).before args s = true) : ∃ cA : ClassId, ArrOfT s cA ty ∧ s.vm.findClass ("[" ++ ty.toString) = some cA := by
  obtain ⟨c, k, comp, h1, h2, h3⟩ := Cond.arrayClass_spec h
  exact ⟨c, fun n z => ⟨(fun k h => by cases h), k, h2, comp, h3⟩, h1⟩
theorem s0_ao {args : Array Value} {s : State} {C : String} (h : (Cond.arrayOver (.object C)).before args s = true) : ∃ cA : ClassId, ArrOfT s cA (.object C) ∧ va_RA s cA (.object C) := by
  obtain ⟨comp, c, k, h1, h2, h3, h4, h5⟩ := Cond.arrayOver_spec h
  exact ⟨c, fun n z => ⟨(fun k h => by cases h), k, h3, comp, h4⟩, k, comp, h3, h4, h1, h5⟩
theorem s0_kn {args : Array Value} {s : State} (hts : ∀ w ∈ lw_tbl, w.before args s = true) : ∀ (k : Nat) (q : vw_C), vwCl[k]? = some q → ∃ (cC : ClassId) (iS : Nat → Nat), u_Kn s q.1 q.2.1 q.2.2 cC iS := by
  have ha : ∀ w ∈ ab_all, w.before args s = true := fun w hw => hts w (ab_all_in w hw)
  intro k q hq
  match k, hq with
  | 0, hq => cases hq; exact u_known ha iw_Jx4a65c (ha _ it_Jx4a65c)
  | 1, hq => cases hq; exact u_known ha iw_X0 (ha _ it_X0)
  | 2, hq => cases hq; exact u_known ha iw_X1 (ha _ it_X1)
  | 3, hq => cases hq; exact u_known ha iw_X2 (ha _ it_X2)
  | 4, hq => cases hq; exact u_known ha iw_X3 (ha _ it_X3)
  | 5, hq => cases hq; exact u_known ha iw_X4 (ha _ it_X4)
  | 6, hq => cases hq; exact u_known ha iw_X5 (ha _ it_X5)
  | 7, hq => cases hq; exact u_known ha iw_X6 (ha _ it_X6)
  | 8, hq => cases hq; exact u_known ha iw_X7 (ha _ it_X7)
  | 9, hq => cases hq; exact u_known ha iw_X8 (ha _ it_X8)
  | 10, hq => cases hq; exact u_known ha iw_X9 (ha _ it_X9)
  | 11, hq => cases hq; exact u_known ha iw_X10 (ha _ it_X10)
  | k + 12, hq => exact nomatch hq
theorem s0_K {args : Array Value} {s : State} (hts : ∀ w ∈ lw_tbl, w.before args s = true) : ∃ (G : va_G) (dA : Nat → ClassId), ∀ e : Nat, va_K G vwCl (ab_tys (G, dA, e)) s := by
  have hk : ∀ k : Nat, ∃ y : ClassId × (Nat → Nat), ∀ q : vw_C, vwCl[k]? = some q → u_Kn s q.1 q.2.1 q.2.2 y.1 y.2 := by
    intro k
    cases h : vwCl[k]? with
    | none => exact ⟨(0, fun _ => 0), fun q hq => nomatch hq⟩
    | some q =>
      obtain ⟨cC, iS, g⟩ := s0_kn hts k q h
      exact ⟨(cC, iS), fun q2 hq => by cases hq; exact g⟩
  obtain ⟨c0, a0, b0⟩ := s0_ar (hts (.arrayClass .int) (by decide +kernel))
  obtain ⟨c1, a1, b1⟩ := s0_ar (hts (.arrayClass .char) (by decide +kernel))
  obtain ⟨c2, a2, b2⟩ := s0_ao (hts (.arrayOver (.object "java/lang/Object")) (by decide +kernel))
  obtain ⟨c3, a3, b3⟩ := s0_ar (hts (.arrayClass .long) (by decide +kernel))
  obtain ⟨c4, a4, b4⟩ := s0_ar (hts (.arrayClass .double) (by decide +kernel))
  refine ⟨(fun k => (Classical.choose (hk k)).1, fun k => (Classical.choose (hk k)).2), fun i => if i = 0 then c0 else if i = 1 then c1 else if i = 2 then c2 else if i = 3 then c3 else c4, fun e => ⟨fun k q hq => Classical.choose_spec (hk k) q hq, fun k q hq => ?_⟩⟩
  match k, hq with
  | 0, hq => cases hq; exact ⟨a0, b0⟩
  | 1, hq => cases hq; exact ⟨a1, b1⟩
  | 2, hq => cases hq; exact ⟨a2, b2⟩
  | 3, hq => cases hq; exact ⟨a3, b3⟩
  | 4, hq => cases hq; exact ⟨a4, b4⟩
  | k + 5, hq => exact nomatch hq
theorem s0_NC {args : Array Value} {s : State} (hg : (Jvm.Cond.and given_1 narrow_1).before args s = true) : ab_NC s := by
  have hs := flat_of_before _ hg
  have hd : ∀ q ∈ ab_ncs, (Cond.not (.castable q.1 q.2)) ∈ flatC (Jvm.Cond.and given_1 narrow_1) := by decide +kernel
  exact fun q hq => va_Nc.of (hs _ (hd q hq))
theorem s0_str {args : Array Value} {s : State} (hts : ∀ w ∈ lw_tbl, w.before args s = true) (hg : (Jvm.Cond.and given_1 narrow_1).before args s = true) : ∀ q ∈ ab_strs, ∃ a, vk_R RX9 q.1 q.2 a s := by
  have hs := flat_of_before _ hg
  have hd : ∀ q ∈ ab_strs, (Cond.exactly (.string RX9 q.1) "java/lang/String") ∈ flatC (Jvm.Cond.and given_1 narrow_1) := by decide +kernel
  have hw : ∀ q ∈ ab_strs, (Cond.stringRef RX9 q.1 q.2) ∈ lw_tbl := by decide +kernel
  intro q hq
  obtain ⟨a, c, cell, k, h1, -⟩ := Cond.exactly_spec (hs _ (hd q hq))
  exact ⟨a, vk_R.of (hts _ (hw q hq)) h1⟩
theorem s0_nest {args : Array Value} {s : State} (hts : ∀ w ∈ lw_tbl, w.before args s = true) : ∀ w ∈ ab_nest, va_Nw w s := by
  intro w hw
  have h2 : ab_isN w = true := (List.mem_filter.mp hw).2
  have h1 := hts w (ab_nest_in w hw)
  cases w <;> first | exact va_Nw.of rfl h1 | (cases h2; done)
theorem s0_SF {args : Array Value} {s : State} (G : va_G) (dA : Nat → ClassId) (hts : ∀ w ∈ lw_tbl, w.before args s = true) (hg : (Jvm.Cond.and given_1 narrow_1).before args s = true) : ∃ e0 : Nat, ab_SF s.heap.size (G, dA, e0) s s.heap := by
  have hs := flat_of_before _ hg
  have hA : ∀ a : Nat, a < s.heap.size → ¬ ab_A s.heap.size a := fun a h => Nat.not_le.mpr h
  obtain ⟨t, ht, hT⟩ := va_Tof (args := args) (s := s) (tm := .static "java/util/ArrayList" "DEFAULTCAPACITY_EMPTY_ELEMENTDATA" "[Ljava/lang/Object;") (ty := .object "java/lang/Object") (N := 0) (f := fun _ => .null) (A := ab_A s.heap.size) (by decide) (hs _ (by decide +kernel)) (Cond.eq_int (n := 0) (hs (.eq (.length (.static "java/util/ArrayList" "DEFAULTCAPACITY_EMPTY_ELEMENTDATA" "[Ljava/lang/Object;")) (.int 0)) (by decide +kernel)) rfl) (fun j hj => absurd hj (Nat.not_lt_zero j)) hA
  exact ⟨t, vx_Zqof (args := args) (hts _ (by decide +kernel)) (hts _ (by decide +kernel)) (hs _ (by decide +kernel)) hA, vx_Zqof (args := args) (hts _ (by decide +kernel)) (hts _ (by decide +kernel)) (hs _ (by decide +kernel)) hA, va_Zof (args := args) (hts _ (by decide +kernel)) (hts _ (by decide +kernel)) ht hA, ⟨hT, va_Mi.of (args := args) (hs _ (by decide +kernel)), va_AO.of (A := args) (hts _ (by decide +kernel))⟩, s0_str hts hg, s0_nest hts⟩
theorem s0_start {p : Program} {e : Env} {s : State} {m : MethodId} {below : List Frame} {meth : Method} {c : Code} (l : Launch) (hl : l.stackTraces = false) (hF : ∀ x y : Int32, 0 < y.toInt → vf_n32 (FP.fdiv (FP.i2f x) (FP.i2f y)) ∧ vf_n64 (FP.f2d (FP.fdiv (FP.i2f x) (FP.i2f y))) ∧ Op.cmpValue (FP.dcmp (FP.f2d (FP.fdiv (FP.i2f x) (FP.i2f y))) (FP.f2d (FP.fdiv (FP.i2f x) (FP.i2f y)))) .l = ii_n 0) {b L : Nat} {xs : Nat → Int32} (hL : L ≤ 3072) (C0 : lw_At p s m meth c b L xs) : W p l e room_1 s m #[Value.ref b] below meth c s.heap [] 0 0 (lw_Z below #[Value.ref b] s) (entryFrame m ([Value.ref b] : List Value).toArray 8) := by
  obtain ⟨hx, hb, hr, hml, hown, hts, hX, hbl, hlocks, hgv⟩ := C0
  obtain ⟨G, dA, hK⟩ := s0_K hts
  obtain ⟨e0, hSF⟩ := s0_SF G dA hts hgv
  have C : ab_C p l s m #[Value.ref b] meth c (G, dA, e0) s.heap.size 8 RL cL_law (some .boolean) := ⟨hx, hb, hr, hml, hown, fun w hw => hts w (ab_all_in w hw), hlocks, hl, hSF, Nat.le_refl _⟩
  refine lw_room (R2 := ab_rm 20 601024 7293034) (Nat.le_of_ble_eq_true rfl) (Nat.le_of_ble_eq_true rfl) (Nat.le_of_ble_eq_true rfl) (Nat.le_of_ble_eq_true rfl) ?_
  rw [lg_entry_eq]
  exact lw_all C hl (s0_NC hgv) hX hbl (Nat.not_le.mpr hbl) hL hF (lw_fin C) s.heap [] _ ⟨hK e0, Nat.le_refl _, fun a e h => nomatch h⟩ va_S.rf (lv_entry [.ref b] (Nat.le_of_ble_eq_true rfl))
theorem s0_flags {l : Launch} (hflags : l.flags = flags0) : l.stackTraces = false := by
  first | (unfold Launch.stackTraces; rw [hflags]; rfl) | (show l.flags.2 = false; rw [hflags]; rfl) | (simp [Launch.flags, flags0] at hflags; simp [hflags]; done)
