/-! A request is kept, a bus is added. -/
theorem ii_vof (x : Int32) : ii_v x.toInt = .int x := by
  unfold ii_v
  rw [← ii_of]
theorem ab_open {E : ab_E} {base : Nat} {x : ab_X} {ad : Nat → Nat} {z : ab_H} {s : State} {H : Heap} (h : ab_HM E base x ad z s H) : ∃ (g : ab_G) (cw : Nat → Option va_E), ab_gok g z ∧ aw_HM E base cw s H ∧ (∀ (o : Nat) (e : va_E), ab_ce E x ad g z o = some e → cw (ad o) = some e) ∧ ∀ (o o2 : Nat) (e e2 : va_E), ab_ce E x ad g z o = some e → ab_ce E x ad g z o2 = some e2 → ad o = ad o2 → o = o2 := by
  obtain ⟨hK, hb, g, hg, hc, hi⟩ := h
  refine ⟨g, fun a => @dite (Option va_E) (∃ (o : Nat) (e : va_E), ad o = a ∧ ab_ce E x ad g z o = some e) (Classical.propDecidable _) (fun h => some h.choose_spec.choose) (fun _ => none), hg, ⟨hK, hb, fun a e he => ?_⟩, fun o e he => ?_, hi⟩
  · dsimp only at he
    by_cases h : ∃ (o : Nat) (e : va_E), ad o = a ∧ ab_ce E x ad g z o = some e
    · rw [dif_pos h] at he
      obtain ⟨h1, h2⟩ := h.choose_spec.choose_spec
      rw [Option.some.inj he] at h2
      have h3 := hc _ _ h2
      rw [h1] at h3
      exact h3
    · rw [dif_neg h] at he
      cases he
  · have h : ∃ (o2 : Nat) (e2 : va_E), ad o2 = ad o ∧ ab_ce E x ad g z o2 = some e2 := ⟨o, e, rfl, he⟩
    dsimp only
    rw [dif_pos h]
    obtain ⟨h1, h2⟩ := h.choose_spec.choose_spec
    have key : ∀ (o2 : Nat) (e2 : va_E), ad o2 = ad o → ab_ce E x ad g z o2 = some e2 → e2 = e := fun o2 e2 z1 z2 => by
      have h3 := hi _ _ _ _ z2 he z1
      rw [h3, he] at z2
      exact (Option.some.inj z2).symm
    exact congrArg some (key _ _ h1 h2)
section OC
variable {p : Program} {l : Launch} {e : Env} {R : Room} {s : State} {m : MethodId} {args : Array Value} {below : List Frame} {meth : Method} {c : Code} {E : ab_E} {base nL : Nat} {Q : State → Prop}
variable {own : String} {cc : ByteArray} {ret : Option FieldType} {x : ab_X} {ad : Nat → Nat} {z : ab_H} {cw : Nat → Option va_E} {k n pc : Nat} {L : List (Nat × Value)} {st : List Value}
theorem a_open (K : ∀ (g : ab_G) (cw : Nat → Option va_E), ab_gok g z → (∀ (o : Nat) (e : va_E), ab_ce E x ad g z o = some e → cw (ad o) = some e) → (∀ (o o2 : Nat) (e e2 : va_E), ab_ce E x ad g z o = some e → ab_ce E x ad g z o2 = some e2 → ad o = ad o2 → o = o2) → aw_W p l e R s m args below meth c E base nL Q cw k n pc L st) : ab_W p l e R s m args below meth c E base nL Q x ad z k n pc L st := by
  intro H lo ls h1 h2 h3
  obtain ⟨g, cw, hg, hcw, hce, hi⟩ := ab_open h1
  exact K g cw hg hce hi H lo ls hcw h2 h3
theorem a_close (hc : ∀ H : Heap, aw_HM E base cw s H → ab_HM E base x ad z s H) (K : ab_W p l e R s m args below meth c E base nL Q x ad z k n pc L st) : aw_W p l e R s m args below meth c E base nL Q cw k n pc L st :=
  fun H lo ls h1 => K H lo ls (hc H h1)
theorem rows_y {n i y : Nat} {h : Nat → Nat} (hi : i < n) (hy : ab_rows n h i = some y) : y = h i := by
  unfold ab_rows at hy
  rw [if_pos hi] at hy
  exact (Option.some.inj hy).symm
theorem rows_up {n : Nat} {h : Nat → Nat} : va_up (ab_rows n h) n (some (h n)) = ab_rows (n + 1) h := by
  funext j
  unfold va_up ab_rows
  by_cases hj : j = n
  · subst hj
    simp
  · by_cases h2 : j < n
    · simp [hj, h2, Nat.lt_succ_of_lt h2]
    · simp [hj, h2, show ¬ j < n + 1 by omega]
theorem rows_0 {h : Nat → Nat} : (fun _ => none : Nat → Option Nat) = ab_rows 0 h := by
  funext j
  unfold ab_rows
  simp
theorem rows_cpy {n : Nat} {h : Nat → Nat} : va_cpy (ab_rows n h) (fun _ => none) 0 0 n = ab_rows n h := by
  funext j
  unfold va_cpy ab_rows
  by_cases h2 : j < n
  · simp [h2]
  · simp [h2]
theorem rows_if {n q : Nat} {h : Nat → Nat} : ab_rows n (fun j => if j = n then q else h j) = ab_rows n h := by
  funext j
  unfold ab_rows
  by_cases h2 : j < n
  · simp [h2, Nat.ne_of_lt h2]
  · simp [h2]
/-- ArrayList.add, however full the list is -/
theorem w_addAny {a N cn ci x0 Lq index d0 mc0 ms0 : Nat} {mz : Int} {h : Nat → Nat} {rr : vw_C} {fse : List Value} (hl : l.stackTraces = false) (C : ab_C p l s m args meth c E base nL own cc ret) (hrr : vwCl[ci]? = some rr) (hca : Cond.castable rr.1 "java/lang/Object" ∈ ab_nest)
    (kL : cw Lq = some (.inr (0, [ii_v mz, .ref (if N = 0 then E.2.2 else a), ii_v ((cn : Nat) : Int)]))) (hA : N ≠ 0 → cw a = some (aw_ra E N (ab_rows cn h)) ∧ a ≠ Lq ∧ x0 ≠ a) (hcN : cn ≤ N) (hN : N ≤ 60) (hc40 : cn ≤ 40) (hel : ∀ i : Nat, i < cn → ∃ fs : List Value, cw (h i) = some (.inr (ci, fs)) ∧ h i ≠ Lq) (hh : h cn = x0) (kx : cw x0 = some (.inr (ci, fse))) (hxL : x0 ≠ Lq) (hli : Cond.methodLink own index yJx4a65c_add_9ea2d ∈ ab_all) (d : decode cc pc = .ok (.invokevirtual index, 3)) (hr : ab_fit d0 mc0 ms0 7 1 100 2 k n) (hcat : (st.map fun v => v.category).sum ≤ 8)
    (K : ∀ (c1 : Nat → Option va_E) (A1 N1 : Nat), cn + 1 ≤ N1 → N1 ≤ 60 → ((N ≠ 0 ∧ A1 = a) ∨ aw_top cw A1) → c1 A1 = some (aw_ra E N1 (ab_rows (cn + 1) h)) → c1 Lq = some (.inr (0, [ii_v (mz + 1), .ref A1, ii_v (((cn : Nat) : Int) + 1)])) → (∀ b : Nat, b ≠ Lq → b ≠ A1 → c1 b = cw b) → aw_W p l e (ab_rm d0 mc0 ms0) s m args below meth c E base nL Q c1 (k + 1) (n + 100) (pc + 3) L (ii_v 1 :: st)) : aw_W p l e (ab_rm d0 mc0 ms0) s m args below meth c E base nL Q cw k n pc L (.ref x0 :: .ref Lq :: st) := by
  by_cases h0 : N = 0
  · have hc0 : cn = 0 := by omega
    subst hc0
    rw [if_pos h0] at kL
    refine w_callV (b := Lq) (As := [.ref x0]) C (l_addF hl cw Lq mz ci rr hrr hca x0 fse hxL kL kx) co_Jx4a65c_add_9ea2d in_Jx4a65c hli im_Jx4a65c_add_9ea2d se_Jx4a65c_add_9ea2d rfl kL ar_Jx4a65c_add_9ea2d hr rfl hcat d ?_
    intro v c1 z1
    obtain ⟨q1, rfl, t1, k1, kl, f1⟩ := z1
    refine w_vs ?_
    refine K c1 q1 10 (by omega) (by omega) (Or.inr t1) ?_ kl f1
    rw [k1, rows_0 (h := h), ← hh, rows_up]
  · rw [if_neg h0] at kL
    obtain ⟨ka, haL, hxa⟩ := hA h0
    by_cases hlt : cn < N
    · refine w_callV (b := Lq) (As := [.ref x0]) C (l_addR hl cw Lq mz ci rr hrr hca x0 fse hxL cn N a (ab_rows cn h) hlt (by omega) haL hxa kL ka kx) co_Jx4a65c_add_9ea2d in_Jx4a65c hli im_Jx4a65c_add_9ea2d se_Jx4a65c_add_9ea2d rfl kL ar_Jx4a65c_add_9ea2d hr rfl hcat d ?_
      intro v c1 z1
      obtain ⟨rfl, kl, k1, f1⟩ := z1
      refine w_vs ?_
      refine K c1 a N hlt hN (Or.inl ⟨h0, rfl⟩) ?_ kl f1
      rw [k1, ← hh, rows_up]
    · have hcn : cn = N := by omega
      subst hcn
      refine w_callV (b := Lq) (As := [.ref x0]) C (l_addG hl cw Lq mz ci rr hrr hca x0 fse hxL a cn (ab_rows cn h) (fun i hi y hy => by rw [rows_y hi hy]; exact (hel i hi).imp (fun fs hf => hf.1)) (by omega) hc40 haL hxa (fun i hi y hy => by rw [rows_y hi hy]; exact (hel i hi).elim (fun fs hf => hf.2)) kL ka kx) co_Jx4a65c_add_9ea2d in_Jx4a65c hli im_Jx4a65c_add_9ea2d se_Jx4a65c_add_9ea2d rfl kL ar_Jx4a65c_add_9ea2d hr rfl hcat d ?_
      intro v c1 z1
      obtain ⟨q1, rfl, t1, k1, kl, f1⟩ := z1
      refine w_vs ?_
      refine K c1 q1 (cn + max 1 (cn / 2)) (by omega) (by omega) (Or.inr t1) ?_ kl f1
      rw [k1, rows_cpy, ← hh, rows_up]
end OC
/-- it returns; where the objects lie may be another -/
def ab_N (w1 : Nat × Nat × Int64 × UInt64) (P : Option Value → (Nat → Nat) → (Nat → Nat → Int) → Prop) : ab_P := fun oc x ad1 z => x = ab_x4 ∧ z.2 = w1 ∧ ∃ v, oc = .inl v ∧ P v ad1 z.1
section NK
variable {p : Program} {l : Launch} {e : Env} {R : Room} {s : State} {m : MethodId} {args : Array Value} {below : List Frame} {meth : Method} {c : Code} {E : ab_E} {base nL : Nat} {Q : State → Prop}
variable {w1 : Nat × Nat × Int64 × UInt64} {k n pc : Nat} {L : List (Nat × Value)} {st : List Value} {P : Option Value → (Nat → Nat) → (Nat → Nat → Int) → Prop}
theorem a_dN (K : ∀ (v : Option Value) (ad : Nat → Nat) (f : Nat → Nat → Int), P v ad f → ab_W p l e R s m args below meth c E base nL Q ab_x4 ad (f, w1) k n pc L (v.toList ++ st)) : ab_K p l e R s m args below meth c E base nL Q k n pc L st (ab_N w1 P) := by
  intro v x1 ad1 z1 h
  obtain ⟨rfl, h3, v', h4, h5⟩ := h
  cases h4
  obtain ⟨f, w'⟩ := z1
  cases h3
  exact K _ _ _ h5
theorem a_nN : ab_KX p l e R s m args below meth c E base nL Q k n pc L st (ab_N w1 P) := fun X _ _ _ h => by
  obtain ⟨-, -, v', h4, -⟩ := h
  cases h4
end NK
/-- a new wish -/
def nq_T (f : Nat → Nat → Int) (nr : Nat) : Nat → Nat → Int := fun o i => if o = 301 + nr then (if i = 10 then -1 else 0) else f o i
/-- a new bus -/
def nb_T (f : Nat → Nat → Int) (nb : Nat) (s0 c0 x y : Int) : Nat → Nat → Int := fun o i =>
  if o = 200 + nb then (if i = 0 then (nb : Int) else if i = 1 then s0 else if i = 2 then c0 else if i = 3 then x else if i = 4 then y else if i = 6 then x else if i = 7 then y else if i = 8 then c0 else 0)
  else if o = 210 + nb ∨ o = 220 + nb then 0 else f o i
theorem fs_cong {ad ad' : Nat → Nat} {row : Nat → Int} : ∀ (ds : List (Option Nat)) (k : Nat) (_ : ∀ r, some r ∈ ds → ad' r = ad r), ab_fs ad' row k ds = ab_fs ad row k ds
  | [], _, _ => rfl
  | none :: ds, k, h => by
    unfold ab_fs
    rw [fs_cong ds (k + 1) (fun r hr => h r (List.mem_cons_of_mem _ hr))]
  | some r :: ds, k, h => by
    unfold ab_fs
    rw [h r List.mem_cons_self, fs_cong ds (k + 1) (fun r hr => h r (List.mem_cons_of_mem _ hr))]
/-- what an object refers to -/
theorem ob_refs {nb nr o ci : Nat} {ds : List (Option Nat)} (h : ab_ob 4 nb nr o = some (ci, ds)) (h2 : o ≠ 2) : ∀ r, some r ∈ ds → r ≠ 33 ∧ r ≠ 31 ∧ (r < 200 ∨ (200 ≤ o ∧ o < 220 ∧ r = o + 10)) := by
  intro r hr
  have fin : ∀ (c0 : Nat) (d0 : List (Option Nat)), some (c0, d0) = some (ci, ds) → some r ∈ d0 := fun c0 d0 hz => by
    cases hz
    exact hr
  unfold ab_ob at h
  by_cases h40 : o < 40
  · rw [if_pos h40, if_neg (show ¬ (4 = 0) by decide)] at h
    by_cases a0 : o = 0
    · rw [if_pos a0] at h
      have hm := fin _ _ h
      simp only [List.mem_cons, List.not_mem_nil, or_false, false_or, Option.some.injEq, reduceCtorEq] at hm
      omega
    rw [if_neg a0, if_neg h2] at h
    by_cases a4 : o = 4
    · rw [if_pos a4] at h
      have hm := fin _ _ h
      simp only [List.mem_cons, List.not_mem_nil, or_false, false_or, Option.some.injEq, reduceCtorEq] at hm
      omega
    rw [if_neg a4] at h
    by_cases a9 : o = 9
    · rw [if_pos a9] at h
      have hm := fin _ _ h
      simp only [List.mem_cons, List.not_mem_nil, or_false, false_or, Option.some.injEq, reduceCtorEq] at hm
      omega
    rw [if_neg a9] at h
    by_cases a11 : o = 11
    · rw [if_pos a11] at h
      have hm := fin _ _ h
      simp only [List.mem_cons, List.not_mem_nil, or_false, false_or, Option.some.injEq, reduceCtorEq] at hm
      omega
    rw [if_neg a11] at h
    by_cases a13 : o = 13
    · rw [if_pos a13] at h
      have hm := fin _ _ h
      simp only [List.mem_cons, List.not_mem_nil, or_false, false_or, Option.some.injEq, reduceCtorEq] at hm
      omega
    rw [if_neg a13] at h
    by_cases a14 : o = 14
    · rw [if_pos a14] at h
      have hm := fin _ _ h
      simp only [List.mem_cons, List.not_mem_nil, or_false, false_or, Option.some.injEq, reduceCtorEq] at hm
      omega
    rw [if_neg a14] at h
    by_cases a15 : o = 15
    · rw [if_pos a15] at h
      have hm := fin _ _ h
      simp only [List.mem_cons, List.not_mem_nil, or_false, false_or, Option.some.injEq, reduceCtorEq] at hm
      omega
    rw [if_neg a15] at h
    by_cases a16 : o = 16
    · rw [if_pos a16] at h
      have hm := fin _ _ h
      simp only [List.mem_cons, List.not_mem_nil, or_false, false_or, Option.some.injEq, reduceCtorEq] at hm
      omega
    rw [if_neg a16] at h
    by_cases a17 : o = 17
    · rw [if_pos a17] at h
      have hm := fin _ _ h
      simp only [List.mem_cons, List.not_mem_nil, or_false, false_or, Option.some.injEq, reduceCtorEq] at hm
      omega
    rw [if_neg a17] at h
    cases h
  · rw [if_neg h40] at h
    by_cases b40 : o = 40
    · rw [if_pos b40, if_neg (show ¬ (4 < 2) by decide)] at h
      have hm := fin _ _ h
      simp only [List.mem_cons, List.not_mem_nil, or_false, false_or, Option.some.injEq, reduceCtorEq] at hm
      omega
    rw [if_neg b40, if_neg (show ¬ (4 = 0) by decide)] at h
    by_cases c1 : 200 ≤ o ∧ o < 210
    · rw [if_pos c1] at h
      by_cases c2 : o < 200 + nb
      · rw [if_pos c2] at h
        have hm := fin _ _ h
        simp only [List.mem_cons, List.not_mem_nil, or_false, false_or, Option.some.injEq, reduceCtorEq] at hm
        omega
      · rw [if_neg c2] at h
        cases h
    rw [if_neg c1] at h
    by_cases c3 : 210 ≤ o ∧ o < 220
    · rw [if_pos c3] at h
      by_cases c2 : o < 210 + nb
      · rw [if_pos c2] at h
        have hm := fin _ _ h
        simp only [List.mem_cons, List.not_mem_nil, or_false, false_or, Option.some.injEq, reduceCtorEq] at hm
        omega
      · rw [if_neg c2] at h
        cases h
    rw [if_neg c3] at h
    by_cases c5 : 300 ≤ o ∧ o ≤ 300 + nr
    · rw [if_pos c5] at h
      have hm := fin _ _ h
      simp only [List.mem_cons, List.not_mem_nil, or_false, false_or, Option.some.injEq, reduceCtorEq] at hm
    · rw [if_neg c5] at h
      cases h
theorem ob_req_eq {nb nr o : Nat} (h2 : o ≠ 2) (hn : o ≠ 301 + nr) : ab_ob 4 nb (nr + 1) o = ab_ob 4 nb nr o := by
  unfold ab_ob
  rw [if_neg h2, if_neg h2]
  have he : (300 ≤ o ∧ o ≤ 300 + (nr + 1)) ↔ (300 ≤ o ∧ o ≤ 300 + nr) := by omega
  simp only [he]
theorem ob_bus_eq {nb nr o : Nat} (h0 : o ≠ 200 + nb) (h1 : o ≠ 210 + nb) : ab_ob 4 (nb + 1) nr o = ab_ob 4 nb nr o := by
  unfold ab_ob
  have h3 : (o < 200 + (nb + 1)) ↔ (o < 200 + nb) := by omega
  have h4 : (o < 210 + (nb + 1)) ↔ (o < 210 + nb) := by omega
  simp only [h3, h4]
theorem ar_bus_eq {nb o : Nat} (h0 : o ≠ 220 + nb) : ab_ar 4 (nb + 1) o = ab_ar 4 nb o := by
  unfold ab_ar
  have h3 : (o < 220 + (nb + 1)) ↔ (o < 220 + nb) := by omega
  simp only [h3]
theorem rows_cong {n : Nat} {h h' : Nat → Nat} (hh : ∀ j, j < n → h' j = h j) : ab_rows n h' = ab_rows n h := by
  funext j
  unfold ab_rows
  by_cases hj : j < n
  · simp [hj, hh j hj]
  · simp [hj]
section CE
variable {E : ab_E} {ad ad' : Nat → Nat} {g g' : ab_G} {f f' : Nat → Nat → Int} {nb nr o : Nat} {ol : Int64 × UInt64}
theorem ce_req (h2 : o ≠ 2) (h3 : o ≠ 3) (h33 : o ≠ 33) (hn : o ≠ 301 + nr) (hf : f' o = f o) (hnb : nb ≤ 4) (hg : g'.1 1 = g.1 1 ∧ g'.2 1 = g.2 1) (had : ∀ r, r ≠ 33 → r ≠ 301 + nr → ad' r = ad r) : ab_ce E ab_x4 ad' g' (f', nb, nr + 1, ol) o = ab_ce E ab_x4 ad g (f, nb, nr, ol) o := by
  show ab_cel E ab_x4 ad' g' nb (nr + 1) ol (f' o) o = ab_cel E ab_x4 ad g nb nr ol (f o) o
  rw [hf]
  unfold ab_cel
  show (match ab_ob 4 nb (nr + 1) o with | some (ci, ds) => _ | none => _) = (match ab_ob 4 nb nr o with | some (ci, ds) => _ | none => _)
  rw [ob_req_eq h2 hn]
  cases hob : ab_ob 4 nb nr o with
  | some q =>
    obtain ⟨ci, ds⟩ := q
    dsimp only
    rw [fs_cong ds 0 (fun r hr => by have hz := ob_refs hob h2 r hr; exact had r hz.1 (by omega))]
  | none =>
    dsimp only
    split
    · rfl
    · by_cases h5 : 500 ≤ o
      · rw [if_pos h5, if_pos h5]
      · rw [if_neg h5, if_neg h5, if_neg (show ¬ (4 = 0) by decide), if_neg (show ¬ (4 = 0) by decide)]
        by_cases h1 : o = 1
        · rw [if_pos h1, if_pos h1, hg.1, hg.2, had 31 (by decide) (by omega)]
        · rw [if_neg h1, if_neg h1, if_neg h3, if_neg h3]
          by_cases h31 : o = 31
          · rw [if_pos h31, if_pos h31, hg.2, rows_cong (h := fun j => ad (200 + j)) (h' := fun j => ad' (200 + j)) (fun j hj => had _ (by omega) (by omega))]
          · rw [if_neg h31, if_neg h31, if_neg h33, if_neg h33]
theorem ce_bus (hnb4 : nb < 4) (h1 : o ≠ 1) (h31 : o ≠ 31) (h20 : o ≠ 200 + nb) (h21 : o ≠ 210 + nb) (h22 : o ≠ 220 + nb) (hf : f' o = f o) (hr30 : nr ≤ 30) (hg : g'.1 3 = g.1 3 ∧ g'.2 3 = g.2 3) (had : ∀ r, r ≠ 31 → (r < 200 ∨ 230 ≤ r ∨ (r ≠ 200 + nb ∧ r ≠ 210 + nb ∧ r ≠ 220 + nb)) → ad' r = ad r) : ab_ce E ab_x4 ad' g' (f', nb + 1, nr, ol) o = ab_ce E ab_x4 ad g (f, nb, nr, ol) o := by
  show ab_cel E ab_x4 ad' g' (nb + 1) nr ol (f' o) o = ab_cel E ab_x4 ad g nb nr ol (f o) o
  rw [hf]
  unfold ab_cel
  show (match ab_ob 4 (nb + 1) nr o with | some (ci, ds) => _ | none => _) = (match ab_ob 4 nb nr o with | some (ci, ds) => _ | none => _)
  rw [ob_bus_eq h20 h21]
  cases hob : ab_ob 4 nb nr o with
  | some q =>
    obtain ⟨ci, ds⟩ := q
    dsimp only
    by_cases h2 : o = 2
    · subst h2
      cases hob
      rw [fs_cong [some 3, some (300 + nr)] 0 (fun r hr => by
        simp only [List.mem_cons, List.not_mem_nil, or_false, Option.some.injEq] at hr
        exact had r (by omega) (by omega))]
    · rw [fs_cong ds 0 (fun r hr => by have hz := ob_refs hob h2 r hr; exact had r hz.2.1 (by omega))]
  | none =>
    dsimp only
    show (match ab_ar 4 (nb + 1) o with | some (t, n) => _ | none => _) = (match ab_ar 4 nb o with | some (t, n) => _ | none => _)
    rw [ar_bus_eq h22]
    split
    · rfl
    · by_cases h5 : 500 ≤ o
      · rw [if_pos h5, if_pos h5]
      · rw [if_neg h5, if_neg h5, if_neg (show ¬ (4 = 0) by decide), if_neg (show ¬ (4 = 0) by decide), if_neg h1, if_neg h1]
        by_cases h3 : o = 3
        · rw [if_pos h3, if_pos h3, hg.1, hg.2, had 33 (by decide) (by omega)]
        · rw [if_neg h3, if_neg h3, if_neg h31, if_neg h31]
          by_cases h33 : o = 33
          · rw [if_pos h33, if_pos h33, hg.2, rows_cong (h := fun j => ad (300 + j)) (h' := fun j => ad' (300 + j)) (fun j hj => had _ (by omega) (by omega))]
          · rw [if_neg h33, if_neg h33]
end CE
section CL
variable {E : ab_E} {base : Nat} {cw cN : Nat → Option va_E} {ad ad1 : Nat → Nat} {g : ab_G} {f : Nat → Nat → Int} {w : Nat × Nat × Int64 × UInt64} {s : State} {H : Heap} {q1 q2 q3 A1 N1 : Nat} {mm : Int32}
theorem close_req (hg : ab_gok g (f, w)) (hce : ∀ (o : Nat) (e : va_E), ab_ce E ab_x4 ad g (f, w) o = some e → cw (ad o) = some e) (hinj : ∀ (o o2 : Nat) (e e2 : va_E), ab_ce E ab_x4 ad g (f, w) o = some e → ab_ce E ab_x4 ad g (f, w) o2 = some e2 → ad o = ad o2 → o = o2) (hnb : w.1 ≤ 4) (hr29 : w.2.1 < 30) (hH : aw_HM E base cN s H) (ead : ad1 = (fun o => if o = 301 + w.2.1 then q1 else if o = 33 then A1 else ad o))
    (kB : cN (ad 2) = some (.inr (1, [.ref (ad 3), .ref q1]))) (kL : cN (ad 3) = some (.inr (0, [.int mm, .ref A1, ii_v (((w.2.1 : Nat) : Int) + 1)]))) (kA : cN A1 = some (aw_ra E N1 (ab_rows (w.2.1 + 1) (fun j => ad (300 + j))))) (kq : cN q1 = some (.inr (7, [ii_v 0, ii_v 0, ii_v 0, ii_v 0, ii_v 0, ii_v 0, ii_v 0, ii_v 0, ii_v 0, ii_v 0, ii_v (-1), ii_v 0, ii_v 0])))
    (hfr : ∀ b : Nat, b ≠ ad 2 → b ≠ ad 3 → b ≠ A1 → b ≠ q1 → cN b = cw b) (htop : aw_top cw q1) (hA : (g.2 3 ≠ 0 ∧ A1 = ad 33) ∨ aw_top cw A1) (hAq : A1 < q1) (hN1 : w.2.1 + 1 ≤ N1) (hN2 : N1 ≤ 60) : ab_HM E base ab_x4 ad1 (nq_T f w.2.1, w.1, w.2.1 + 1, w.2.2) s H := by
  have had : ∀ o, o ≠ 33 → o ≠ 301 + w.2.1 → ad1 o = ad o := fun o h1 h2 => by rw [ead]; exact (if_neg h2).trans (if_neg h1)
  have hadq : ad1 (301 + w.2.1) = q1 := by rw [ead]; exact if_pos rfl
  have hadA : ad1 33 = A1 := by rw [ead]; exact (if_neg (by omega)).trans (if_pos rfl)
  obtain ⟨g', eg⟩ : ∃ q : ab_G, q = (fun k => if k = 3 then mm else g.1 k, fun k => if k = 3 then N1 else g.2 k) := ⟨_, rfl⟩
  have hg3 : g'.1 3 = mm ∧ g'.2 3 = N1 := by rw [eg]; exact ⟨rfl, rfl⟩
  have hg1 : g'.1 1 = g.1 1 ∧ g'.2 1 = g.2 1 := by rw [eg]; exact ⟨rfl, rfl⟩
  have hold : ∀ o e, o ≠ 2 → o ≠ 3 → o ≠ 33 → o ≠ 301 + w.2.1 → ab_ce E ab_x4 ad1 g' (nq_T f w.2.1, w.1, w.2.1 + 1, w.2.2) o = some e → ab_ce E ab_x4 ad g (f, w) o = some e := fun o e h2 h3 h33 hn he => by
    rw [ce_req (f := f) (g := g) h2 h3 h33 hn (by funext i; exact if_neg hn) hnb hg1 had] at he
    exact he
  have ce2 : ab_ce E ab_x4 ad g (f, w) 2 = some (.inr (1, ab_fs ad (f 2) 0 [some 3, some (300 + w.2.1)])) := ab_ce_ob rfl
  have ce3 := ab_ce_l3 (E := E) (x := ab_x4) (ad := ad) (g := g) (z := (f, w)) (by decide)
  have k2 := hce 2 _ ce2
  have k3 := hce 3 _ ce3
  have hadd : ∀ o e, ab_ce E ab_x4 ad g (f, w) o = some e → o ≠ 2 → o ≠ 3 → o ≠ 33 → ad o ≠ ad 2 ∧ ad o ≠ ad 3 ∧ ad o ≠ A1 ∧ ad o ≠ q1 := fun o e he h2 h3 h33 => by
    refine ⟨fun z => h2 (hinj _ _ _ _ he ce2 z), fun z => h3 (hinj _ _ _ _ he ce3 z), fun z => ?_, fun z => ?_⟩
    · rcases hA with ⟨hN, hA⟩ | hA
      · exact h33 (hinj _ _ _ _ he (ab_ce_e3 (by decide) hN) (by rw [z, hA]))
      · exact absurd (hA _ _ (hce o e he)) (by omega)
    · exact absurd (htop _ _ (hce o e he)) (by omega)
  have hmain : ∀ o e, ab_ce E ab_x4 ad1 g' (nq_T f w.2.1, w.1, w.2.1 + 1, w.2.2) o = some e → cN (ad1 o) = some e := fun o e he => by
    by_cases h2 : o = 2
    · subst h2
      have h9 : ab_ce E ab_x4 ad1 g' (nq_T f w.2.1, w.1, w.2.1 + 1, w.2.2) 2 = some (.inr (1, ab_fs ad1 (nq_T f w.2.1 2) 0 [some 3, some (300 + (w.2.1 + 1))])) := ab_ce_ob rfl
      rw [h9] at he
      cases he
      rw [had 2 (by decide) (by omega), kB]
      show _ = some (Sum.inr (1, [Value.ref (ad1 3), Value.ref (ad1 (300 + (w.2.1 + 1)))]))
      rw [had 3 (by decide) (by omega), show 300 + (w.2.1 + 1) = 301 + w.2.1 by omega, hadq]
    · by_cases h3 : o = 3
      · subst h3
        rw [ab_ce_l3 (by decide)] at he
        cases he
        rw [had 3 (by decide) (by omega), kL, hg3.1, hg3.2, if_neg (by omega), hadA]
        rfl
      · by_cases h33 : o = 33
        · subst h33
          rw [ab_ce_e3 (by decide) (by rw [hg3.2]; omega)] at he
          cases he
          rw [hadA, kA, hg3.2, rows_cong (h := fun j => ad (300 + j)) (h' := fun j => ad1 (300 + j)) (fun j hj => had _ (by omega) (by have hj2 : j < w.2.1 + 1 := hj; omega))]
        · by_cases hn : o = 301 + w.2.1
          · subst hn
            have h9 : ab_ce E ab_x4 ad1 g' (nq_T f w.2.1, w.1, w.2.1 + 1, w.2.2) (301 + w.2.1) = some (.inr (7, ab_fs ad1 (nq_T f w.2.1 (301 + w.2.1)) 0 [none, none, none, none, none, none, none, none, none, none, none, none, none])) := ab_ce_ob (by
              have := ob_req (nb := w.1) (nr := w.2.1 + 1) (r := w.2.1 + 1) (Nat.le_refl _)
              rw [show 300 + (w.2.1 + 1) = 301 + w.2.1 by omega] at this
              exact this)
            rw [h9] at he
            cases he
            rw [hadq, kq]
            have hrow : nq_T f w.2.1 (301 + w.2.1) = fun i => if i = 10 then -1 else 0 := by funext i; exact if_pos rfl
            rw [hrow]
            rfl
          · have he2 := hold o e h2 h3 h33 hn he
            obtain ⟨a1, a2, a3, a4⟩ := hadd o e he2 h2 h3 h33
            rw [had o h33 hn, hfr _ a1 a2 a3 a4]
            exact hce o e he2
  refine ⟨hH.1, hH.2.1, g', ?_, fun o e he => hH.2.2 _ _ (hmain o e he), ?_⟩
  · unfold ab_gok at hg ⊢
    rw [hg3.2, hg1.2]
    exact ⟨hg.1, hg.2.1, hN1, hN2⟩
  · have cls : ∀ o e, ab_ce E ab_x4 ad1 g' (nq_T f w.2.1, w.1, w.2.1 + 1, w.2.2) o = some e → o = 301 + w.2.1 ∨ o = 33 ∨ (o ≠ 301 + w.2.1 ∧ o ≠ 33 ∧ ad1 o = ad o ∧ ∃ e', ab_ce E ab_x4 ad g (f, w) o = some e') := fun o e he => by
      by_cases hn : o = 301 + w.2.1
      · exact Or.inl hn
      · by_cases h33 : o = 33
        · exact Or.inr (Or.inl h33)
        · refine Or.inr (Or.inr ⟨hn, h33, had o h33 hn, ?_⟩)
          by_cases h2 : o = 2
          · exact ⟨_, h2 ▸ ce2⟩
          · by_cases h3 : o = 3
            · exact ⟨_, h3 ▸ ce3⟩
            · exact ⟨e, hold o e h2 h3 h33 hn he⟩
    have nq : ∀ o e', ab_ce E ab_x4 ad g (f, w) o = some e' → ad o ≠ q1 := fun o e' he z => absurd (htop _ _ (hce o e' he)) (by omega)
    have nA : ∀ o e', ab_ce E ab_x4 ad g (f, w) o = some e' → o ≠ 33 → ad o ≠ A1 := fun o e' he h33 z => by
      rcases hA with ⟨hN, hA⟩ | hA
      · exact h33 (hinj _ _ _ _ he (ab_ce_e3 (by decide) hN) (by rw [z, hA]))
      · exact absurd (hA _ _ (hce o e' he)) (by omega)
    intro o o2 e e2 he he2 hz
    rcases cls o e he with rfl | rfl | ⟨b1, b2, b3, e', b4⟩
    · rcases cls o2 e2 he2 with rfl | rfl | ⟨d1, d2, d3, e', d4⟩
      · rfl
      · rw [hadq, hadA] at hz; omega
      · rw [hadq, d3] at hz; exact absurd hz.symm (nq _ _ d4)
    · rcases cls o2 e2 he2 with rfl | rfl | ⟨d1, d2, d3, e', d4⟩
      · rw [hadq, hadA] at hz; omega
      · rfl
      · rw [hadA, d3] at hz; exact absurd hz.symm (nA _ _ d4 d2)
    · rcases cls o2 e2 he2 with rfl | rfl | ⟨d1, d2, d3, e'', d4⟩
      · rw [hadq, b3] at hz; exact absurd hz (nq _ _ b4)
      · rw [hadA, b3] at hz; exact absurd hz (nA _ _ b4 b2)
      · rw [b3, d3] at hz; exact hinj _ _ _ _ b4 d4 hz
theorem close_bus {s0 c0 x y : Int} (hg : ab_gok g (f, w)) (hce : ∀ (o : Nat) (e : va_E), ab_ce E ab_x4 ad g (f, w) o = some e → cw (ad o) = some e) (hinj : ∀ (o o2 : Nat) (e e2 : va_E), ab_ce E ab_x4 ad g (f, w) o = some e → ab_ce E ab_x4 ad g (f, w) o2 = some e2 → ad o = ad o2 → o = o2) (hnb : w.1 < 4) (hr30 : w.2.1 ≤ 30) (hH : aw_HM E base cN s H) (ead : ad1 = (fun o => if o = 200 + w.1 then q1 else if o = 210 + w.1 then q2 else if o = 220 + w.1 then q3 else if o = 31 then A1 else ad o))
    (kL : cN (ad 1) = some (.inr (0, [.int mm, .ref A1, ii_v (((w.1 : Nat) : Int) + 1)]))) (kA : cN A1 = some (aw_ra E N1 (ab_rows (w.1 + 1) (fun j => if j = w.1 then q1 else ad (200 + j))))) (kq1 : cN q1 = some (.inr (2, [ii_v ((w.1 : Nat) : Int), ii_v s0, ii_v c0, ii_v x, ii_v y, .ref q2, ii_v x, ii_v y, ii_v c0, ii_v 0, ii_v 0, ii_v 0, ii_v 0]))) (kq2 : cN q2 = some (.inr (8, [.ref q3, ii_v 0]))) (kq3 : cN q3 = some (aw_ia E 8))
    (hfr : ∀ b : Nat, b ≠ ad 1 → b ≠ A1 → b ≠ q1 → b ≠ q2 → b ≠ q3 → cN b = cw b) (htop : aw_top cw q1) (h12 : q1 < q2) (h23 : q2 < q3) (hA : (g.2 1 ≠ 0 ∧ A1 = ad 31) ∨ (q3 < A1 ∧ aw_top cw A1)) (hN1 : w.1 + 1 ≤ N1) (hN2 : N1 ≤ 60) : ab_HM E base ab_x4 ad1 (nb_T f w.1 s0 c0 x y, w.1 + 1, w.2) s H := by
  have had : ∀ o, o ≠ 31 → (o < 200 ∨ 230 ≤ o ∨ (o ≠ 200 + w.1 ∧ o ≠ 210 + w.1 ∧ o ≠ 220 + w.1)) → ad1 o = ad o := fun o h1 h2 => by rw [ead]; exact (if_neg (by omega)).trans ((if_neg (by omega)).trans ((if_neg (by omega)).trans (if_neg h1)))
  have ha1 : ad1 (200 + w.1) = q1 := by rw [ead]; exact if_pos rfl
  have ha2 : ad1 (210 + w.1) = q2 := by rw [ead]; exact (if_neg (by omega)).trans (if_pos rfl)
  have ha3 : ad1 (220 + w.1) = q3 := by rw [ead]; exact (if_neg (by omega)).trans ((if_neg (by omega)).trans (if_pos rfl))
  have haA : ad1 31 = A1 := by rw [ead]; exact (if_neg (by omega)).trans ((if_neg (by omega)).trans ((if_neg (by omega)).trans (if_pos rfl)))
  obtain ⟨g', eg⟩ : ∃ q : ab_G, q = (fun k => if k = 1 then mm else g.1 k, fun k => if k = 1 then N1 else g.2 k) := ⟨_, rfl⟩
  have hg1 : g'.1 1 = mm ∧ g'.2 1 = N1 := by rw [eg]; exact ⟨rfl, rfl⟩
  have hg3 : g'.1 3 = g.1 3 ∧ g'.2 3 = g.2 3 := by rw [eg]; exact ⟨rfl, rfl⟩
  have hold : ∀ o e, o ≠ 1 → o ≠ 31 → o ≠ 200 + w.1 → o ≠ 210 + w.1 → o ≠ 220 + w.1 → ab_ce E ab_x4 ad1 g' (nb_T f w.1 s0 c0 x y, w.1 + 1, w.2) o = some e → ab_ce E ab_x4 ad g (f, w) o = some e := fun o e h1 h31 h2 h3 h4 he => by
    rw [ce_bus (f := f) (g := g) hnb h1 h31 h2 h3 h4 (by funext i; exact (if_neg h2).trans (if_neg (by omega))) hr30 hg3 had] at he
    exact he
  have ce1 := ab_ce_l1 (E := E) (x := ab_x4) (ad := ad) (g := g) (z := (f, w)) (by decide)
  have hlt : ∀ o e, ab_ce E ab_x4 ad g (f, w) o = some e → ad o < q1 := fun o e he => htop _ _ (hce o e he)
  have nA : ∀ o e', ab_ce E ab_x4 ad g (f, w) o = some e' → o ≠ 31 → ad o ≠ A1 := fun o e' he h31 z => by
    rcases hA with ⟨hN, hA⟩ | ⟨-, hA⟩
    · exact h31 (hinj _ _ _ _ he (ab_ce_e1 (by decide) hN) (by rw [z, hA]))
    · exact absurd (hA _ _ (hce o e' he)) (by omega)
  have hAq : A1 ≠ q1 ∧ A1 ≠ q2 ∧ A1 ≠ q3 := by
    rcases hA with ⟨hN, hA⟩ | ⟨hA, -⟩
    · have := hlt 31 _ (ab_ce_e1 (by decide) hN)
      omega
    · omega
  have hmain : ∀ o e, ab_ce E ab_x4 ad1 g' (nb_T f w.1 s0 c0 x y, w.1 + 1, w.2) o = some e → cN (ad1 o) = some e := fun o e he => by
    by_cases h1 : o = 1
    · subst h1
      rw [ab_ce_l1 (by decide)] at he
      cases he
      rw [had 1 (by decide) (by omega), kL, hg1.1, hg1.2, if_neg (by omega), haA]
      rfl
    · by_cases h31 : o = 31
      · subst h31
        rw [ab_ce_e1 (by decide) (by rw [hg1.2]; omega)] at he
        cases he
        rw [haA, kA, hg1.2, rows_cong (h := fun j => if j = w.1 then q1 else ad (200 + j)) (h' := fun j => ad1 (200 + j)) (fun j hj => by
          have hj2 : j < w.1 + 1 := hj
          by_cases hjw : j = w.1
          · rw [if_pos hjw, hjw, ha1]
          · rw [if_neg hjw]
            exact had _ (by omega) (by omega))]
      · by_cases h2 : o = 200 + w.1
        · subst h2
          have h9 : ab_ce E ab_x4 ad1 g' (nb_T f w.1 s0 c0 x y, w.1 + 1, w.2) (200 + w.1) = some (.inr (2, ab_fs ad1 (nb_T f w.1 s0 c0 x y (200 + w.1)) 0 [none, none, none, none, none, some (200 + w.1 + 10), none, none, none, none, none, none, none])) := ab_ce_ob (ob_bus (nb := w.1 + 1) (nr := w.2.1) (b := w.1) (Nat.lt_succ_self _) (by omega))
          rw [h9] at he
          cases he
          have hrow : nb_T f w.1 s0 c0 x y (200 + w.1) = fun i => if i = 0 then (w.1 : Int) else if i = 1 then s0 else if i = 2 then c0 else if i = 3 then x else if i = 4 then y else if i = 6 then x else if i = 7 then y else if i = 8 then c0 else 0 := by funext i; exact if_pos rfl
          rw [ha1, kq1, hrow]
          show _ = some (Sum.inr (2, [ii_v ((w.1 : Nat) : Int), ii_v s0, ii_v c0, ii_v x, ii_v y, .ref (ad1 (200 + w.1 + 10)), ii_v x, ii_v y, ii_v c0, ii_v 0, ii_v 0, ii_v 0, ii_v 0]))
          rw [show 200 + w.1 + 10 = 210 + w.1 by omega, ha2]
        · by_cases h3 : o = 210 + w.1
          · subst h3
            have h9 : ab_ce E ab_x4 ad1 g' (nb_T f w.1 s0 c0 x y, w.1 + 1, w.2) (210 + w.1) = some (.inr (8, ab_fs ad1 (nb_T f w.1 s0 c0 x y (210 + w.1)) 0 [some (210 + w.1 + 10), none])) := ab_ce_ob (by
              have := ob_btour (nb := w.1 + 1) (nr := w.2.1) (b := w.1) (Nat.lt_succ_self _) (by omega)
              rw [show 200 + w.1 + 10 = 210 + w.1 by omega] at this
              exact this)
            rw [h9] at he
            cases he
            have hrow : nb_T f w.1 s0 c0 x y (210 + w.1) = fun _ => 0 := by funext i; exact (if_neg (by omega)).trans (if_pos (Or.inl rfl))
            rw [ha2, kq2, hrow]
            show _ = some (Sum.inr (8, [.ref (ad1 (210 + w.1 + 10)), ii_v 0]))
            rw [show 210 + w.1 + 10 = 220 + w.1 by omega, ha3]
          · by_cases h4 : o = 220 + w.1
            · subst h4
              have h9 : ab_ce E ab_x4 ad1 g' (nb_T f w.1 s0 c0 x y, w.1 + 1, w.2) (220 + w.1) = some (.inl (E.2.1 0, 8, .inl (fun j => ii_n (nb_T f w.1 s0 c0 x y (220 + w.1) j)))) := ab_ce_ar (by
                have := ar_btour (nb := w.1 + 1) (b := w.1) (Nat.lt_succ_self _) (by omega)
                rw [show 200 + w.1 + 10 + 10 = 220 + w.1 by omega] at this
                exact this)
              rw [h9] at he
              cases he
              have hrow : nb_T f w.1 s0 c0 x y (220 + w.1) = fun _ => 0 := by funext i; exact (if_neg (by omega)).trans (if_pos (Or.inr rfl))
              rw [ha3, kq3, hrow]
            · have he2 := hold o e h1 h31 h2 h3 h4 he
              have hl2 := hlt o e he2
              rw [had o h31 (by omega), hfr _ (fun z => h1 (hinj _ _ _ _ he2 ce1 z)) (nA o e he2 h31) (by omega) (by omega) (by omega)]
              exact hce o e he2
  refine ⟨hH.1, hH.2.1, g', ?_, fun o e he => hH.2.2 _ _ (hmain o e he), ?_⟩
  · unfold ab_gok at hg ⊢
    rw [hg3.2, hg1.2]
    exact ⟨hN1, hN2, hg.2.2.1, hg.2.2.2⟩
  · have cls : ∀ o e, ab_ce E ab_x4 ad1 g' (nb_T f w.1 s0 c0 x y, w.1 + 1, w.2) o = some e → (o = 200 + w.1 ∧ ad1 o = q1) ∨ (o = 210 + w.1 ∧ ad1 o = q2) ∨ (o = 220 + w.1 ∧ ad1 o = q3) ∨ (o = 31 ∧ ad1 o = A1) ∨ (o ≠ 31 ∧ ad1 o = ad o ∧ ∃ e', ab_ce E ab_x4 ad g (f, w) o = some e') := fun o e he => by
      by_cases h2 : o = 200 + w.1
      · exact Or.inl ⟨h2, h2 ▸ ha1⟩
      · by_cases h3 : o = 210 + w.1
        · exact Or.inr (Or.inl ⟨h3, h3 ▸ ha2⟩)
        · by_cases h4 : o = 220 + w.1
          · exact Or.inr (Or.inr (Or.inl ⟨h4, h4 ▸ ha3⟩))
          · by_cases h31 : o = 31
            · exact Or.inr (Or.inr (Or.inr (Or.inl ⟨h31, h31 ▸ haA⟩)))
            · refine Or.inr (Or.inr (Or.inr (Or.inr ⟨h31, had o h31 (by omega), ?_⟩)))
              by_cases h1 : o = 1
              · exact ⟨_, h1 ▸ ce1⟩
              · exact ⟨e, hold o e h1 h31 h2 h3 h4 he⟩
    intro o o2 e e2 he he2 hz
    rcases cls o e he with ⟨b1, b2⟩ | ⟨b1, b2⟩ | ⟨b1, b2⟩ | ⟨b1, b2⟩ | ⟨b1, b2, e', b3⟩ <;> rcases cls o2 e2 he2 with ⟨d1, d2⟩ | ⟨d1, d2⟩ | ⟨d1, d2⟩ | ⟨d1, d2⟩ | ⟨d1, d2, e'', d3⟩
    all_goals rw [b2, d2] at hz
    all_goals first
      | omega
      | (have := hlt _ _ b3; omega)
      | (have := hlt _ _ d3; omega)
      | exact absurd hz (nA _ _ b3 b1)
      | exact absurd hz.symm (nA _ _ d3 d1)
      | exact hinj _ _ _ _ b3 d3 hz
end CL
set_option maxRecDepth 20000 in
set_option maxHeartbeats 2000000 in
theorem c_keepWish {l : Launch} {E : ab_E} {base : Nat} (hl : l.stackTraces = false) {ad : Nat → Nat} (f : Nat → Nat → Int) (w : Nat × Nat × Int64 × UInt64) (hr29 : w.2.1 < 30) (h4 : w.1 ≤ 4)  : ab_M l E base yX0_keepWish cX0_keepWish 2 (some (.object "ShuttleRow$Request")) 9 2 120 [.ref (ad 2)] ab_x4 ad (f, w) (ab_N (w.1, w.2.1 + 1, w.2.2) (fun v ad1 g => v = some (.ref (ad1 (300 + w.2.1))) ∧ g = nq_T f w.2.1 ∧ ∀ o, o ≠ 33 → o ≠ 301 + w.2.1 → ad1 o = ad o)) := by
  obtain ⟨Post, hPost⟩ : ∃ P : ab_P, P = (ab_N (w.1, w.2.1 + 1, w.2.2) (fun v ad1 g => v = some (.ref (ad1 (300 + w.2.1))) ∧ g = nq_T f w.2.1 ∧ ∀ o, o ≠ 33 → o ≠ 301 + w.2.1 → ad1 o = ad o)) := ⟨_, rfl⟩
  rw [← hPost]
  refine ab_of RX0 [(0, .ref (ad 2))] hl (by decide) rfl (Nat.le_of_ble_eq_true rfl) rfl ?_
  intro p e s m args below meth c C T0 hnm
  refine a_aload_n C dX0_keepWish_0 rfl ?_
  refine a_get (ci := 1) (i := 1) (v := .ref (ad (300 + w.2.1))) C iw_X0 rfl (by decide) rfl fl_X0_19 rfl rfl dX0_keepWish_1 ?_
  refine a_astore_n (L' := [(0, .ref (ad 2)), (1, .ref (ad (300 + w.2.1)))]) C dX0_keepWish_4 (by decide) rfl ?_
  refine a_aload_n C dX0_keepWish_5 rfl ?_
  refine a_get (ci := 1) (i := 0) (v := .ref (ad 3)) C iw_X0 rfl (by decide) rfl fl_X0_10 rfl rfl dX0_keepWish_6 ?_
  refine a_aload_n C dX0_keepWish_9 rfl ?_
  refine a_open ?_
  intro g cw hg hce hinj
  obtain ⟨aB, e_aB⟩ : ∃ q : Nat, ad 2 = q := ⟨_, rfl⟩
  obtain ⟨aL, e_aL⟩ : ∃ q : Nat, ad 3 = q := ⟨_, rfl⟩
  obtain ⟨aW, e_aW⟩ : ∃ q : Nat, ad (300 + w.2.1) = q := ⟨_, rfl⟩
  rw [e_aB, e_aL, e_aW]
  have k_aB : cw aB = some (.inr (1, [.ref aL, .ref aW])) := by rw [← e_aB, ← e_aL, ← e_aW]; exact hce 2 _ (ab_ce_ob (ds := [some 3, some (300 + w.2.1)]) (ci := 1) rfl)
  obtain ⟨fsW, k_aW⟩ : ∃ fs : List Value, cw aW = some (.inr (7, fs)) := ⟨_, by rw [← e_aW]; exact hce (300 + w.2.1) _ (ab_ce_ob (ob_wish w))⟩
  have k_aL : cw aL = some (.inr (0, [ii_v (g.1 3).toInt, .ref (if g.2 3 = 0 then E.2.2 else ad 33), ii_v ((w.2.1 : Nat) : Int)])) := by rw [← e_aL, ii_vof]; exact hce 3 _ (ab_ce_l3 (by decide))
  have hd1 : aL ≠ aB := fun z => absurd (hinj 3 2 _ _ (ab_ce_l3 (by decide)) (ab_ce_ob (ds := [some 3, some (300 + w.2.1)]) (ci := 1) rfl) (by rw [e_aL, e_aB]; exact z)) (by decide)
  have hd3 : aW ≠ aL := fun z => absurd (hinj (300 + w.2.1) 3 _ _ (ab_ce_ob (ob_wish w)) (ab_ce_l3 (by decide)) (by rw [e_aW, e_aL]; exact z)) (by omega)
  have hgg := hg
  unfold ab_gok at hgg
  dsimp only at hgg
  refine w_addAny (a := ad 33) (N := g.2 3) (cn := w.2.1) (h := fun j => ad (300 + j)) (ci := 7) (fse := fsW) hl C rfl ca_1735 k_aL (fun hN => ⟨hce 33 _ (ab_ce_e3 (by decide) hN), fun z => absurd (hinj 33 3 _ _ (ab_ce_e3 (by decide) hN) (ab_ce_l3 (by decide)) (by rw [z, e_aL])) (by decide), fun z => absurd (hinj (300 + w.2.1) 33 _ _ (ab_ce_ob (ob_wish w)) (ab_ce_e3 (by decide) hN) (by rw [e_aW, z])) (by omega)⟩) (by omega) (by omega) (by omega) (fun i hi => ⟨_, hce (300 + i) _ (ab_ce_ob (ob_req (Nat.le_of_lt hi))), fun z => absurd (hinj (300 + i) 3 _ _ (ab_ce_ob (ob_req (Nat.le_of_lt hi))) (ab_ce_l3 (by decide)) (by rw [z, e_aL])) (by omega)⟩) e_aW k_aW hd3 ml_X0_31 dX0_keepWish_10 ⟨by decide, by decide, by decide, by decide⟩ (Nat.le_of_ble_eq_true rfl) ?_
  intro c1 A1 N1 hN1 hN2 hA1 k_A1 k_aL2 hfr1
  have hdA : A1 ≠ aB := fun z => by rcases hA1 with ⟨hN, hA⟩ | hA; exact absurd (hinj 33 2 _ _ (ab_ce_e3 (by decide) hN) (ab_ce_ob (ds := [some 3, some (300 + w.2.1)]) (ci := 1) rfl) (by rw [← hA, z, e_aB])) (by decide); exact absurd (hA _ _ k_aB) (by omega)
  have hdL : A1 ≠ aL := fun z => by rcases hA1 with ⟨hN, hA⟩ | hA; exact absurd (hinj 33 3 _ _ (ab_ce_e3 (by decide) hN) (ab_ce_l3 (by decide)) (by rw [← hA, z, e_aL])) (by decide); exact absurd (hA _ _ k_aL) (by omega)
  have hk_aB : c1 aB = some (.inr (1, [.ref aL, .ref aW])) := (hfr1 aB (fun z => hd1 z.symm) (fun z => hdA z.symm)).trans k_aB
  clear k_aB k_aL
  rename c1 aB = _ => k_aB
  rename c1 aL = _ => k_aL
  refine w_pop C dX0_keepWish_13 rfl ?_
  refine w_aload_n C dX0_keepWish_14 rfl ?_
  refine w_new (ci := 7) (fs := [ii_v 0, ii_v 0, ii_v 0, ii_v 0, ii_v 0, ii_v 0, ii_v 0, ii_v 0, ii_v 0, ii_v 0, ii_v 0, ii_v 0, ii_v 0]) C iw_X6 rfl tyX6 tyX6_ok cl_X0_16 it_X6 in_X6 (fun j hj => by rcases (show j = 0 ∨ j = 1 ∨ j = 2 ∨ j = 3 ∨ j = 4 ∨ j = 5 ∨ j = 6 ∨ j = 7 ∨ j = 8 ∨ j = 9 ∨ j = 10 ∨ j = 11 ∨ j = 12 by omega) with rfl | rfl | rfl | rfl | rfl | rfl | rfl | rfl | rfl | rfl | rfl | rfl | rfl <;> rfl) (by omega) dX0_keepWish_15 ?_
  intro q1 t_q1
  have l_aB_q1 : aB < q1 := t_q1 _ _ k_aB
  have l_aL_q1 : aL < q1 := t_q1 _ _ k_aL
  have l_A1_q1 : A1 < q1 := t_q1 _ _ k_A1
  have t0 : aw_top c1 q1 := t_q1
  obtain ⟨w1_0, e_w1_0⟩ : ∃ x : Nat → Option va_E, x = aw_up c1 q1 (.inr (7, [ii_v 0, ii_v 0, ii_v 0, ii_v 0, ii_v 0, ii_v 0, ii_v 0, ii_v 0, ii_v 0, ii_v 0, ii_v 0, ii_v 0, ii_v 0])) := ⟨_, rfl⟩
  rw [← e_w1_0]
  replace k_aB : w1_0 aB = some (.inr (1, [.ref aL, .ref aW])) := by rw [e_w1_0, aw_up_o _ (by omega)]; exact k_aB
  replace k_aL : w1_0 aL = some (.inr (0, [ii_v ((g.1 3).toInt + 1), .ref A1, ii_v (((w.2.1 : Nat) : Int) + 1)])) := by rw [e_w1_0, aw_up_o _ (by omega)]; exact k_aL
  replace k_A1 : w1_0 A1 = some (aw_ra E N1 (ab_rows (w.2.1 + 1) (fun j => ad (300 + j)))) := by rw [e_w1_0, aw_up_o _ (by omega)]; exact k_A1
  have k_q1 : w1_0 q1 = some (.inr (7, [ii_v 0, ii_v 0, ii_v 0, ii_v 0, ii_v 0, ii_v 0, ii_v 0, ii_v 0, ii_v 0, ii_v 0, ii_v 0, ii_v 0, ii_v 0])) := by rw [e_w1_0]; exact aw_up_s _ _ _
  refine w_dup C dX0_keepWish_18 rfl ?_
  refine w_callIN (b := q1) (As := []) C (i_req hl w1_0 q1  k_q1) co_X6_init in_X6 mn_X0_18 im_X6_init rfl ar_X6_init ⟨by decide, by decide, by omega, by omega⟩ rfl (Nat.le_of_ble_eq_true rfl) dX0_keepWish_19 ?_
  intro v_w2_1 w2_1 z_w2_1
  obtain ⟨rfl, n_w2_1_q1, f_w2_1⟩ := z_w2_1
  replace k_aB : w2_1 aB = some (.inr (1, [.ref aL, .ref aW])) := by rw [f_w2_1 _ (by omega)]; exact k_aB
  replace k_aL : w2_1 aL = some (.inr (0, [ii_v ((g.1 3).toInt + 1), .ref A1, ii_v (((w.2.1 : Nat) : Int) + 1)])) := by rw [f_w2_1 _ (by omega)]; exact k_aL
  replace k_A1 : w2_1 A1 = some (aw_ra E N1 (ab_rows (w.2.1 + 1) (fun j => ad (300 + j)))) := by rw [f_w2_1 _ (by omega)]; exact k_A1
  replace k_q1 := n_w2_1_q1
  refine w_vd ?_
  refine w_put (ci := 1) (i := 1) C iw_X0 rfl (by decide) (Or.inl rfl) tyX0 tyX0_ok nmX0 rfl rfl fl_X0_19 k_aB (Nat.le_of_ble_eq_true rfl) rfl rfl dX0_keepWish_22 ?_
  obtain ⟨w3_2, e_w3_2⟩ : ∃ x : Nat → Option va_E, x = aw_up w2_1 aB (.inr (1, [.ref aL, .ref aW].set 1 (.ref q1))) := ⟨_, rfl⟩
  rw [← e_w3_2]
  replace k_aL : w3_2 aL = some (.inr (0, [ii_v ((g.1 3).toInt + 1), .ref A1, ii_v (((w.2.1 : Nat) : Int) + 1)])) := by rw [e_w3_2, aw_up_o _ (by omega)]; exact k_aL
  replace k_A1 : w3_2 A1 = some (aw_ra E N1 (ab_rows (w.2.1 + 1) (fun j => ad (300 + j)))) := by rw [e_w3_2, aw_up_o _ (by omega)]; exact k_A1
  replace k_q1 : w3_2 q1 = some (.inr (7, [ii_v 0, ii_v 0, ii_v 0, ii_v 0, ii_v 0, ii_v 0, ii_v 0, ii_v 0, ii_v 0, ii_v 0, ii_v (-1), ii_v 0, ii_v 0])) := by rw [e_w3_2, aw_up_o _ (by omega)]; exact k_q1
  replace k_aB : w3_2 aB = some (.inr (1, [.ref aL, .ref q1])) := by rw [e_w3_2]; exact aw_up_s _ _ _
  have htop : aw_top cw q1 := fun b e0 hb => if h_aL : b = aL then h_aL ▸ l_aL_q1 else if h_A1 : b = A1 then h_A1 ▸ l_A1_q1 else t_q1 b e0 (by rw [hfr1 b h_aL h_A1]; exact hb)
  have hfr2 : ∀ b : Nat, b ≠ aB → b ≠ aL → b ≠ A1 → b ≠ q1 → w3_2 b = cw b := fun b h_aB h_aL h_A1 h_q1 => by rw [e_w3_2, aw_up_o _ h_aB, f_w2_1 b h_q1, e_w1_0, aw_up_o _ h_q1, hfr1 b h_aL h_A1]
  obtain ⟨ad1, ead⟩ : ∃ q : Nat → Nat, q = (fun o => if o = 301 + w.2.1 then q1 else if o = 33 then A1 else ad o) := ⟨_, rfl⟩
  have had : ∀ o, o ≠ 33 → o ≠ 301 + w.2.1 → ad1 o = ad o := fun o h1 h2 => by rw [ead]; exact (if_neg h2).trans (if_neg h1)
  refine a_close (x := ab_x4) (ad := ad1) (z := (nq_T f w.2.1, w.1, w.2.1 + 1, w.2.2)) (fun H hH => close_req hg hce hinj (by omega) (by omega) hH ead (by rw [e_aB, e_aL]; exact k_aB) (by rw [e_aL]; exact k_aL) k_A1 k_q1 (by rw [e_aB, e_aL]; exact hfr2) htop hA1 l_A1_q1 hN1 hN2) ?_
  rw [show aW = ad1 (300 + w.2.1) from (e_aW.symm.trans (had _ (by omega) (by omega)).symm), show aB = ad1 2 from (e_aB.symm.trans (had _ (by decide) (by omega)).symm)]
  refine a_aload_n C dX0_keepWish_25 rfl ?_
  refine a_aret C (Or.inl ⟨_, rfl⟩) ?_ (by decide) (by decide) dX0_keepWish_26
  rw [hPost]
  exact ⟨rfl, rfl, _, rfl, rfl, rfl, had⟩
set_option maxRecDepth 20000 in
set_option maxHeartbeats 2000000 in
theorem x_addBus {l : Launch} {E : ab_E} {base : Nat} (hl : l.stackTraces = false) {ad : Nat → Nat} (f : Nat → Nat → Int) (w : Nat × Nat × Int64 × UInt64) (s0 c0 x y : Int) (zs0 : -2147483648 ≤ s0 ∧ s0 < 2147483648) (zc0 : -2147483648 ≤ c0 ∧ c0 < 2147483648) (zx : -2147483648 ≤ x ∧ x < 2147483648) (zy : -2147483648 ≤ y ∧ y < 2147483648)(h : ¬ ((1 ≤ s0 ∧ s0 ≤ 6) ∧ (20 ≤ c0 ∧ c0 ≤ 200) ∧ (0 ≤ x ∧ x ≤ 20) ∧ (0 ≤ y ∧ y ≤ 20))) : ab_M l E base yX9_addBus cX9_addBus 6 (some .int) 7 1 6 [.ref (ad 0), ii_v s0, ii_v c0, ii_v x, ii_v y] ab_x4 ad (f, w) (ab_T "java/lang/IllegalArgumentException" ab_x4 ad (f, w)) := by
  obtain ⟨Post, hPost⟩ : ∃ P : ab_P, P = (ab_T "java/lang/IllegalArgumentException" ab_x4 ad (f, w)) := ⟨_, rfl⟩
  rw [← hPost]
  refine ab_of RX9 [(0, .ref (ad 0)), (1, ii_v s0), (2, ii_v c0), (3, ii_v x), (4, ii_v y)] hl (by decide) rfl (Nat.le_of_ble_eq_true rfl) rfl ?_
  intro p e s m args below meth c C T0 hnm
  refine a_iload_n C dX9_addBus_0 rfl ?_
  refine a_iconst C dX9_addBus_1 ?_
  refine a_bipush C dX9_addBus_2 (by decide) ?_
  refine a_callS (As := [ii_v s0, ii_v 1, ii_v 6]) C (c_isBetween hl f w s0 1 6 (by omega) (by omega) (by omega)) co_X9_isBetween in_X9 ml_X9_68 sc_X9_isBetween ar_X9_isBetween ⟨by decide, by decide, by decide, by decide⟩ rfl (Nat.le_of_ble_eq_true rfl) dX9_addBus_4 (a_dR ?_) a_nR
  refine a_bif_eq (tgt := 31) C dX9_addBus_7 rfl (fun h7 => ?_) (fun h7 => ?_)
  · skip
    refine a_throw C T0 (by decide) cl_X9_72 in_IAE xw_IAE (is := 85) (text := "there is no such bus") (by decide) dX9_addBus_31 dX9_addBus_34 dX9_addBus_35 dX9_addBus_37 dX9_addBus_40 ?_ ⟨by decide, by decide, by decide⟩ (Nat.le_of_ble_eq_true rfl)
    rw [hPost]
    exact ⟨rfl, rfl, rfl, rfl⟩
  · skip
    refine a_iload_n C dX9_addBus_10 rfl ?_
    refine a_bipush C dX9_addBus_11 (by decide) ?_
    refine a_sipush C dX9_addBus_13 (by decide) ?_
    refine a_callS (As := [ii_v c0, ii_v 20, ii_v 200]) C (c_isBetween hl f w c0 20 200 (by omega) (by omega) (by omega)) co_X9_isBetween in_X9 ml_X9_68 sc_X9_isBetween ar_X9_isBetween ⟨by decide, by decide, by decide, by decide⟩ rfl (Nat.le_of_ble_eq_true rfl) dX9_addBus_16 (a_dR ?_) a_nR
    refine a_bif_eq (tgt := 31) C dX9_addBus_19 rfl (fun h19 => ?_) (fun h19 => ?_)
    · skip
      refine a_throw C T0 (by decide) cl_X9_72 in_IAE xw_IAE (is := 85) (text := "there is no such bus") (by decide) dX9_addBus_31 dX9_addBus_34 dX9_addBus_35 dX9_addBus_37 dX9_addBus_40 ?_ ⟨by decide, by decide, by decide⟩ (Nat.le_of_ble_eq_true rfl)
      rw [hPost]
      exact ⟨rfl, rfl, rfl, rfl⟩
    · skip
      refine a_iload_n C dX9_addBus_22 rfl ?_
      refine a_iload C dX9_addBus_23 rfl ?_
      refine a_callS (As := [ii_v x, ii_v y]) C (c_isInTown hl f w x y (by omega) (by omega)) co_X9_isInTown in_X9 ml_X9_81 sc_X9_isInTown ar_X9_isInTown ⟨by decide, by decide, by decide, by decide⟩ rfl (Nat.le_of_ble_eq_true rfl) dX9_addBus_25 (a_dR ?_) a_nR
      refine a_bif_ne (tgt := 41) C dX9_addBus_28 rfl (fun h28 => ?_) (fun h28 => ?_)
      · skip
        exact absurd ⟨h7, h19, h28.1, h28.2⟩ h
      · skip
        refine a_throw C T0 (by decide) cl_X9_72 in_IAE xw_IAE (is := 85) (text := "there is no such bus") (by decide) dX9_addBus_31 dX9_addBus_34 dX9_addBus_35 dX9_addBus_37 dX9_addBus_40 ?_ ⟨by decide, by decide, by decide⟩ (Nat.le_of_ble_eq_true rfl)
        rw [hPost]
        exact ⟨rfl, rfl, rfl, rfl⟩
set_option maxRecDepth 20000 in
set_option maxHeartbeats 2000000 in
theorem x2_addBus {l : Launch} {E : ab_E} {base : Nat} (hl : l.stackTraces = false) {ad : Nat → Nat} (f : Nat → Nat → Int) (w : Nat × Nat × Int64 × UInt64) (s0 c0 x y : Int) (zs0 : -2147483648 ≤ s0 ∧ s0 < 2147483648) (zc0 : -2147483648 ≤ c0 ∧ c0 < 2147483648) (zx : -2147483648 ≤ x ∧ x < 2147483648) (zy : -2147483648 ≤ y ∧ y < 2147483648)(h : ((1 ≤ s0 ∧ s0 ≤ 6) ∧ (20 ≤ c0 ∧ c0 ≤ 200) ∧ (0 ≤ x ∧ x ≤ 20) ∧ (0 ≤ y ∧ y ≤ 20))) (h4 : w.1 = 4) : ab_M l E base yX9_addBus cX9_addBus 6 (some .int) 7 1 6 [.ref (ad 0), ii_v s0, ii_v c0, ii_v x, ii_v y] ab_x4 ad (f, w) (ab_T "java/lang/IllegalStateException" ab_x4 ad (f, w)) := by
  obtain ⟨Post, hPost⟩ : ∃ P : ab_P, P = (ab_T "java/lang/IllegalStateException" ab_x4 ad (f, w)) := ⟨_, rfl⟩
  rw [← hPost]
  refine ab_of RX9 [(0, .ref (ad 0)), (1, ii_v s0), (2, ii_v c0), (3, ii_v x), (4, ii_v y)] hl (by decide) rfl (Nat.le_of_ble_eq_true rfl) rfl ?_
  intro p e s m args below meth c C T0 hnm
  obtain ⟨ha1, ha2, ha3, ha4⟩ := h
  refine a_iload_n C dX9_addBus_0 rfl ?_
  refine a_iconst C dX9_addBus_1 ?_
  refine a_bipush C dX9_addBus_2 (by decide) ?_
  refine a_callS (As := [ii_v s0, ii_v 1, ii_v 6]) C (c_isBetween hl f w s0 1 6 (by omega) (by omega) (by omega)) co_X9_isBetween in_X9 ml_X9_68 sc_X9_isBetween ar_X9_isBetween ⟨by decide, by decide, by decide, by decide⟩ rfl (Nat.le_of_ble_eq_true rfl) dX9_addBus_4 (a_dR ?_) a_nR
  refine a_bif_eq (tgt := 31) C dX9_addBus_7 rfl (fun h7 => ?_) (fun h7 => ?_)
  · skip
    exact absurd ha1 h7
  · skip
    refine a_iload_n C dX9_addBus_10 rfl ?_
    refine a_bipush C dX9_addBus_11 (by decide) ?_
    refine a_sipush C dX9_addBus_13 (by decide) ?_
    refine a_callS (As := [ii_v c0, ii_v 20, ii_v 200]) C (c_isBetween hl f w c0 20 200 (by omega) (by omega) (by omega)) co_X9_isBetween in_X9 ml_X9_68 sc_X9_isBetween ar_X9_isBetween ⟨by decide, by decide, by decide, by decide⟩ rfl (Nat.le_of_ble_eq_true rfl) dX9_addBus_16 (a_dR ?_) a_nR
    refine a_bif_eq (tgt := 31) C dX9_addBus_19 rfl (fun h19 => ?_) (fun h19 => ?_)
    · skip
      exact absurd ha2 h19
    · skip
      refine a_iload_n C dX9_addBus_22 rfl ?_
      refine a_iload C dX9_addBus_23 rfl ?_
      refine a_callS (As := [ii_v x, ii_v y]) C (c_isInTown hl f w x y (by omega) (by omega)) co_X9_isInTown in_X9 ml_X9_81 sc_X9_isInTown ar_X9_isInTown ⟨by decide, by decide, by decide, by decide⟩ rfl (Nat.le_of_ble_eq_true rfl) dX9_addBus_25 (a_dR ?_) a_nR
      refine a_bif_ne (tgt := 41) C dX9_addBus_28 rfl (fun h28 => ?_) (fun h28 => ?_)
      · skip
        refine a_aload_n C dX9_addBus_41 rfl ?_
        refine a_get (ci := 10) (i := 0) (v := .ref (ad 1)) C iw_X9 rfl (by decide) rfl fl_X9_12 rfl rfl dX9_addBus_42 ?_
        refine a_callL (o := 1) (As := []) C (c_lsize hl f w (Or.inl ⟨rfl, rfl, rfl⟩) (by omega)) co_Jx4a65c_size_8abf5 in_Jx4a65c ml_X9_87 im_Jx4a65c_size_8abf5 se_Jx4a65c_size_8abf5 rfl (Or.inl rfl) (by decide) ar_Jx4a65c_size_8abf5 ⟨by decide, by decide, by decide, by decide⟩ rfl (Nat.le_of_ble_eq_true rfl) dX9_addBus_45 (a_dR ?_) a_nR
        refine a_istore (L' := [(0, .ref (ad 0)), (1, ii_v s0), (2, ii_v c0), (3, ii_v x), (4, ii_v y), (5, ii_v ((w.1 : Nat) : Int))]) C dX9_addBus_48 (by decide) rfl ?_
        refine a_iload C dX9_addBus_50 rfl ?_
        refine a_iconst C dX9_addBus_52 ?_
        refine a_icmp_lt (tgt := 66) C dX9_addBus_53 rfl (by unfold ii_B; omega) (by unfold ii_B; omega) (fun h53 => ?_) (fun h53 => ?_)
        · skip
          omega
        · skip
          refine a_throw C T0 (by decide) cl_X9_91 in_ISE xw_ISE (is := 93) (text := "there are 4 buses") (by decide) dX9_addBus_56 dX9_addBus_59 dX9_addBus_60 dX9_addBus_62 dX9_addBus_65 ?_ ⟨by decide, by decide, by decide⟩ (Nat.le_of_ble_eq_true rfl)
          rw [hPost]
          exact ⟨rfl, rfl, rfl, rfl⟩
      · skip
        exact absurd ⟨ha3, ha4⟩ h28
set_option maxRecDepth 20000 in
set_option maxHeartbeats 2000000 in
theorem c_addBus {l : Launch} {E : ab_E} {base : Nat} (hl : l.stackTraces = false) {ad : Nat → Nat} (f : Nat → Nat → Int) (w : Nat × Nat × Int64 × UInt64) (s0 c0 x y : Int) (zs0 : -2147483648 ≤ s0 ∧ s0 < 2147483648) (zc0 : -2147483648 ≤ c0 ∧ c0 < 2147483648) (zx : -2147483648 ≤ x ∧ x < 2147483648) (zy : -2147483648 ≤ y ∧ y < 2147483648)(h : ((1 ≤ s0 ∧ s0 ≤ 6) ∧ (20 ≤ c0 ∧ c0 ≤ 200) ∧ (0 ≤ x ∧ x ≤ 20) ∧ (0 ≤ y ∧ y ≤ 20))) (h4 : w.1 < 4) (hr30 : w.2.1 ≤ 30)  : ab_M l E base yX9_addBus cX9_addBus 6 (some .int) 9 4 130 [.ref (ad 0), ii_v s0, ii_v c0, ii_v x, ii_v y] ab_x4 ad (f, w) (ab_N (w.1 + 1, w.2) (fun v ad1 g => v = some (ii_v (w.1 : Int)) ∧ g = nb_T f w.1 s0 c0 x y ∧ ∀ o, o ≠ 31 → (o < 200 ∨ 230 ≤ o ∨ (o ≠ 200 + w.1 ∧ o ≠ 210 + w.1 ∧ o ≠ 220 + w.1)) → ad1 o = ad o)) := by
  obtain ⟨Post, hPost⟩ : ∃ P : ab_P, P = (ab_N (w.1 + 1, w.2) (fun v ad1 g => v = some (ii_v (w.1 : Int)) ∧ g = nb_T f w.1 s0 c0 x y ∧ ∀ o, o ≠ 31 → (o < 200 ∨ 230 ≤ o ∨ (o ≠ 200 + w.1 ∧ o ≠ 210 + w.1 ∧ o ≠ 220 + w.1)) → ad1 o = ad o)) := ⟨_, rfl⟩
  rw [← hPost]
  refine ab_of RX9 [(0, .ref (ad 0)), (1, ii_v s0), (2, ii_v c0), (3, ii_v x), (4, ii_v y)] hl (by decide) rfl (Nat.le_of_ble_eq_true rfl) rfl ?_
  intro p e s m args below meth c C T0 hnm
  obtain ⟨ha1, ha2, ha3, ha4⟩ := h
  refine a_iload_n C dX9_addBus_0 rfl ?_
  refine a_iconst C dX9_addBus_1 ?_
  refine a_bipush C dX9_addBus_2 (by decide) ?_
  refine a_callS (As := [ii_v s0, ii_v 1, ii_v 6]) C (c_isBetween hl f w s0 1 6 (by omega) (by omega) (by omega)) co_X9_isBetween in_X9 ml_X9_68 sc_X9_isBetween ar_X9_isBetween ⟨by decide, by decide, by decide, by decide⟩ rfl (Nat.le_of_ble_eq_true rfl) dX9_addBus_4 (a_dR ?_) a_nR
  refine a_bif_eq (tgt := 31) C dX9_addBus_7 rfl (fun h7 => ?_) (fun h7 => ?_)
  · skip
    exact absurd ha1 h7
  · skip
    refine a_iload_n C dX9_addBus_10 rfl ?_
    refine a_bipush C dX9_addBus_11 (by decide) ?_
    refine a_sipush C dX9_addBus_13 (by decide) ?_
    refine a_callS (As := [ii_v c0, ii_v 20, ii_v 200]) C (c_isBetween hl f w c0 20 200 (by omega) (by omega) (by omega)) co_X9_isBetween in_X9 ml_X9_68 sc_X9_isBetween ar_X9_isBetween ⟨by decide, by decide, by decide, by decide⟩ rfl (Nat.le_of_ble_eq_true rfl) dX9_addBus_16 (a_dR ?_) a_nR
    refine a_bif_eq (tgt := 31) C dX9_addBus_19 rfl (fun h19 => ?_) (fun h19 => ?_)
    · skip
      exact absurd ha2 h19
    · skip
      refine a_iload_n C dX9_addBus_22 rfl ?_
      refine a_iload C dX9_addBus_23 rfl ?_
      refine a_callS (As := [ii_v x, ii_v y]) C (c_isInTown hl f w x y (by omega) (by omega)) co_X9_isInTown in_X9 ml_X9_81 sc_X9_isInTown ar_X9_isInTown ⟨by decide, by decide, by decide, by decide⟩ rfl (Nat.le_of_ble_eq_true rfl) dX9_addBus_25 (a_dR ?_) a_nR
      refine a_bif_ne (tgt := 41) C dX9_addBus_28 rfl (fun h28 => ?_) (fun h28 => ?_)
      · skip
        refine a_aload_n C dX9_addBus_41 rfl ?_
        refine a_get (ci := 10) (i := 0) (v := .ref (ad 1)) C iw_X9 rfl (by decide) rfl fl_X9_12 rfl rfl dX9_addBus_42 ?_
        refine a_callL (o := 1) (As := []) C (c_lsize hl f w (Or.inl ⟨rfl, rfl, rfl⟩) (by omega)) co_Jx4a65c_size_8abf5 in_Jx4a65c ml_X9_87 im_Jx4a65c_size_8abf5 se_Jx4a65c_size_8abf5 rfl (Or.inl rfl) (by decide) ar_Jx4a65c_size_8abf5 ⟨by decide, by decide, by decide, by decide⟩ rfl (Nat.le_of_ble_eq_true rfl) dX9_addBus_45 (a_dR ?_) a_nR
        refine a_istore (L' := [(0, .ref (ad 0)), (1, ii_v s0), (2, ii_v c0), (3, ii_v x), (4, ii_v y), (5, ii_v ((w.1 : Nat) : Int))]) C dX9_addBus_48 (by decide) rfl ?_
        refine a_iload C dX9_addBus_50 rfl ?_
        refine a_iconst C dX9_addBus_52 ?_
        refine a_icmp_lt (tgt := 66) C dX9_addBus_53 rfl (by unfold ii_B; omega) (by unfold ii_B; omega) (fun h53 => ?_) (fun h53 => ?_)
        · skip
          refine a_aload_n C dX9_addBus_66 rfl ?_
          refine a_get (ci := 10) (i := 0) (v := .ref (ad 1)) C iw_X9 rfl (by decide) rfl fl_X9_12 rfl rfl dX9_addBus_67 ?_
          refine a_open ?_
          intro g cw hg hce hinj
          obtain ⟨aR, e_aR⟩ : ∃ q : Nat, ad 0 = q := ⟨_, rfl⟩
          obtain ⟨aL, e_aL⟩ : ∃ q : Nat, ad 1 = q := ⟨_, rfl⟩
          rw [e_aR, e_aL]
          have k_aL : cw aL = some (.inr (0, [ii_v (g.1 1).toInt, .ref (if g.2 1 = 0 then E.2.2 else ad 31), ii_v ((w.1 : Nat) : Int)])) := by rw [← e_aL, ii_vof]; exact hce 1 _ (ab_ce_l1 (by decide))
          have hgg := hg
          unfold ab_gok at hgg
          dsimp only at hgg
          refine w_new (ci := 2) (fs := [ii_v 0, ii_v 0, ii_v 0, ii_v 0, ii_v 0, .null, ii_v 0, ii_v 0, ii_v 0, ii_v 0, ii_v 0, ii_v 0, ii_v 0]) C iw_X1 rfl tyX1 tyX1_ok cl_X9_96 it_X1 in_X1 (fun j hj => by rcases (show j = 0 ∨ j = 1 ∨ j = 2 ∨ j = 3 ∨ j = 4 ∨ j = 5 ∨ j = 6 ∨ j = 7 ∨ j = 8 ∨ j = 9 ∨ j = 10 ∨ j = 11 ∨ j = 12 by omega) with rfl | rfl | rfl | rfl | rfl | rfl | rfl | rfl | rfl | rfl | rfl | rfl | rfl <;> rfl) (by omega) dX9_addBus_70 ?_
          intro q1 t_q1
          have l_aL_q1 : aL < q1 := t_q1 _ _ k_aL
          have t0 : aw_top cw q1 := t_q1
          obtain ⟨w1_0, e_w1_0⟩ : ∃ x : Nat → Option va_E, x = aw_up cw q1 (.inr (2, [ii_v 0, ii_v 0, ii_v 0, ii_v 0, ii_v 0, .null, ii_v 0, ii_v 0, ii_v 0, ii_v 0, ii_v 0, ii_v 0, ii_v 0])) := ⟨_, rfl⟩
          rw [← e_w1_0]
          replace k_aL : w1_0 aL = some (.inr (0, [ii_v (g.1 1).toInt, .ref (if g.2 1 = 0 then E.2.2 else ad 31), ii_v ((w.1 : Nat) : Int)])) := by rw [e_w1_0, aw_up_o _ (by omega)]; exact k_aL
          have k_q1 : w1_0 q1 = some (.inr (2, [ii_v 0, ii_v 0, ii_v 0, ii_v 0, ii_v 0, .null, ii_v 0, ii_v 0, ii_v 0, ii_v 0, ii_v 0, ii_v 0, ii_v 0])) := by rw [e_w1_0]; exact aw_up_s _ _ _
          refine w_dup C dX9_addBus_73 rfl ?_
          refine w_iload C dX9_addBus_74 rfl ?_
          refine w_iload_n C dX9_addBus_76 rfl ?_
          refine w_iload_n C dX9_addBus_77 rfl ?_
          refine w_iload_n C dX9_addBus_78 rfl ?_
          refine w_iload C dX9_addBus_79 rfl ?_
          refine w_callIN (b := q1) (As := [ii_v ((w.1 : Nat) : Int), ii_v s0, ii_v c0, ii_v x, ii_v y]) C (i_bus hl w1_0 q1 ((w.1 : Nat) : Int) s0 c0 x y k_q1) co_X1_init in_X1 mn_X9_98 im_X1_init rfl ar_X1_init ⟨by decide, by decide, by omega, by omega⟩ rfl (Nat.le_of_ble_eq_true rfl) dX9_addBus_81 ?_
          intro v_w2_1 w2_1 z_w2_1
          obtain ⟨rfl, q2, q3, t_q2, l_q2_q3, k_q2, k_q3, n_w2_1_q1, f_w2_1⟩ := z_w2_1
          have l_q1_q2 : q1 < q2 := t_q2 _ _ k_q1
          replace k_aL : w2_1 aL = some (.inr (0, [ii_v (g.1 1).toInt, .ref (if g.2 1 = 0 then E.2.2 else ad 31), ii_v ((w.1 : Nat) : Int)])) := by rw [f_w2_1 _ (by omega) (by omega) (by omega)]; exact k_aL
          replace k_q1 := n_w2_1_q1
          refine w_vd ?_
          have hfr0 : ∀ b : Nat, b ≠ q1 → b ≠ q2 → b ≠ q3 → w2_1 b = cw b := fun b h_q1 h_q2 h_q3 => by rw [f_w2_1 b h_q1 h_q2 h_q3, e_w1_0, aw_up_o _ h_q1]
          have hold : ∀ (b : Nat) (e0 : va_E), cw b = some e0 → w2_1 b = some e0 := fun b e0 hb => by have hlt := t0 b e0 hb; rw [hfr0 b (by omega) (by omega) (by omega)]; exact hb
          refine w_addAny (a := ad 31) (N := g.2 1) (cn := w.1) (h := fun j => if j = w.1 then q1 else ad (200 + j)) (ci := 2) hl C rfl ca_1745 k_aL (fun hN => ⟨by rw [rows_if]; exact hold _ _ (hce 31 _ (ab_ce_e1 (by decide) hN)), fun z => absurd (hinj 31 1 _ _ (ab_ce_e1 (by decide) hN) (ab_ce_l1 (by decide)) (by rw [z, e_aL])) (by decide), fun z => absurd (t0 _ _ (hce 31 _ (ab_ce_e1 (by decide) hN))) (by omega)⟩) (by omega) (by omega) (by omega) (fun i hi => by rw [if_neg (by omega)]; exact ⟨_, hold _ _ (hce (200 + i) _ (ab_ce_ob (ob_bus (nb := w.1) (nr := w.2.1) hi (by omega)))), fun z => absurd (hinj (200 + i) 1 _ _ (ab_ce_ob (ob_bus (nb := w.1) (nr := w.2.1) hi (by omega))) (ab_ce_l1 (by decide)) (by rw [z, e_aL])) (by omega)⟩) (if_pos rfl) k_q1 (by omega) ml_X9_101 dX9_addBus_84 ⟨by decide, by decide, by decide, by decide⟩ (Nat.le_of_ble_eq_true rfl) ?_
          intro c1 A1 N1 hN1 hN2 hA1 k_A1 k_aL2 hfr1
          have hA1q : A1 ≠ q1 ∧ A1 ≠ q2 ∧ A1 ≠ q3 := by rcases hA1 with ⟨hN, hA⟩ | hA; have := t0 _ _ (hce 31 _ (ab_ce_e1 (by decide) hN)); omega; have z1 := hA _ _ k_q1; have z2 := hA _ _ k_q2; have z3 := hA _ _ k_q3; omega
          have m_q1 := (hfr1 q1 (by omega) (by omega)).trans k_q1
          have m_q2 := (hfr1 q2 (by omega) (by omega)).trans k_q2
          have m_q3 := (hfr1 q3 (by omega) (by omega)).trans k_q3
          have hfr2 : ∀ b : Nat, b ≠ aL → b ≠ A1 → b ≠ q1 → b ≠ q2 → b ≠ q3 → c1 b = cw b := fun b h1 h2 h3 h4 h5 => (hfr1 b h1 h2).trans (hfr0 b h3 h4 h5)
          obtain ⟨ad1, ead⟩ : ∃ q : Nat → Nat, q = (fun o => if o = 200 + w.1 then q1 else if o = 210 + w.1 then q2 else if o = 220 + w.1 then q3 else if o = 31 then A1 else ad o) := ⟨_, rfl⟩
          have had : ∀ o, o ≠ 31 → (o < 200 ∨ 230 ≤ o ∨ (o ≠ 200 + w.1 ∧ o ≠ 210 + w.1 ∧ o ≠ 220 + w.1)) → ad1 o = ad o := fun o h1 h2 => by rw [ead]; exact (if_neg (by omega)).trans ((if_neg (by omega)).trans ((if_neg (by omega)).trans (if_neg h1)))
          refine a_close (x := ab_x4) (ad := ad1) (z := (nb_T f w.1 s0 c0 x y, w.1 + 1, w.2)) (fun H hH => close_bus hg hce hinj h4 hr30 hH ead (by rw [e_aL]; exact k_aL2) k_A1 m_q1 m_q2 m_q3 (by rw [e_aL]; exact hfr2) t0 l_q1_q2 l_q2_q3 (by rcases hA1 with hA | hA; exact Or.inl hA; exact Or.inr ⟨hA _ _ k_q3, fun b e0 hb => hA b e0 (hold b e0 hb)⟩) hN1 hN2) ?_
          rw [show aR = ad1 0 from (e_aR.symm.trans (had 0 (by decide) (Or.inl (by decide))).symm)]
          refine a_pop C dX9_addBus_87 rfl ?_
          refine a_iload C dX9_addBus_88 rfl ?_
          refine a_iret C ?_ (by decide) (by decide) dX9_addBus_90
          rw [hPost]
          exact ⟨rfl, rfl, _, rfl, rfl, rfl, had⟩
        · skip
          omega
      · skip
        exact absurd ⟨ha3, ha4⟩ h28
