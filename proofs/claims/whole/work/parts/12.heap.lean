/-! The rows over AW that read and write the heap. -/
theorem ab_fs_len (ad : Nat → Nat) (row : Nat → Int) (j : Nat) (ds : List (Option Nat)) : (ab_fs ad row j ds).length = ds.length := by
  induction ds generalizing j with
  | nil => rfl
  | cons d ds ih => cases d <;> simp [ab_fs, ih]
theorem ab_fs_set (ad : Nat → Nat) (row row2 : Nat → Int) (v : Int) (j i : Nat) (ds : List (Option Nat)) (hd : ds[i]? = some none) (hv : row2 (j + i) = v) (ho : ∀ q, q ≠ j + i → row2 q = row q) : ab_fs ad row2 j ds = (ab_fs ad row j ds).set i (ii_v v) := by
  induction ds generalizing j i with
  | nil => simp at hd
  | cons d ds ih =>
    cases i with
    | zero =>
      simp at hd
      subst hd
      have h : ab_fs ad row2 (j + 1) ds = ab_fs ad row (j + 1) ds := by
        have hall : ∀ q, j + 1 ≤ q → row2 q = row q := fun q hq => ho q (by omega)
        clear ih ho hv
        generalize hj : j + 1 = j2 at hall ⊢
        clear hj
        induction ds generalizing j2 with
        | nil => rfl
        | cons d ds ih2 =>
          cases d with
          | none => simp only [ab_fs]; rw [hall j2 (Nat.le_refl _), ih2 (j2 + 1) (fun q hq => hall q (by omega))]
          | some r => simp only [ab_fs]; rw [ih2 (j2 + 1) (fun q hq => hall q (by omega))]
      simp only [ab_fs, List.set_cons_zero]
      rw [h]
      simp at hv
      rw [hv]
    | succ i =>
      simp at hd
      have h := ih (j + 1) i hd (by rw [show j + 1 + i = j + (i + 1) by omega]; exact hv) (fun q hq => ho q (by omega))
      cases d with
      | none => simp only [ab_fs, List.set_cons_succ]; rw [h, ho j (by omega)]
      | some r => simp only [ab_fs, List.set_cons_succ]; rw [h]
theorem ab_ce_ob {E : ab_E} {x : ab_X} {ad : Nat → Nat} {g : ab_G} {z : ab_H} {o ci : Nat} {ds : List (Option Nat)} (ho : ab_ob x.1 z.2.1 z.2.2.1 o = some (ci, ds)) : ab_ce E x ad g z o = some (.inr (ci, ab_fs ad (z.1 o) 0 ds)) := by
  simp [ab_cel, ho]
theorem ab_ar_ob {ex nb nr o : Nat} {q : Nat × Nat} (h : ab_ar ex nb o = some q) : ab_ob ex nb nr o = none := by
  unfold ab_ar at h
  unfold ab_ob
  by_cases h40 : o < 40
  · rw [if_pos h40] at h ⊢
    by_cases hx : ex = 0
    · rw [if_pos hx] at h; cases h
    · rw [if_neg hx] at h ⊢
      have hh : (5 ≤ o ∧ o ≤ 8) ∨ (o = 10 ∨ o = 12) ∨ (24 ≤ o ∧ o ≤ 26) := by
        by_cases a1 : 5 ≤ o ∧ o ≤ 8
        · exact Or.inl a1
        · rw [if_neg a1] at h
          by_cases a2 : o = 10 ∨ o = 12
          · exact Or.inr (Or.inl a2)
          · rw [if_neg a2] at h
            by_cases a3 : 24 ≤ o ∧ o ≤ 26
            · exact Or.inr (Or.inr a3)
            · rw [if_neg a3] at h; cases h
      rw [if_neg (by omega), if_neg (by omega), if_neg (by omega), if_neg (by omega), if_neg (by omega), if_neg (by omega), if_neg (by omega), if_neg (by omega), if_neg (by omega), if_neg (by omega)]
  · rw [if_neg h40] at h ⊢
    by_cases h90 : o < 90
    · rw [if_pos h90] at h
      by_cases hx : ex < 2
      · rw [if_pos hx] at h; cases h
      · rw [if_neg hx] at h
        have h40b : o ≠ 40 := by
          intro h9
          subst h9
          revert h
          simp
        rw [if_neg h40b, if_neg (by omega), if_neg (by omega), if_neg (by omega), if_neg (by omega)]
    · rw [if_neg h90] at h
      by_cases hx : ex = 0
      · rw [if_pos hx] at h; cases h
      · rw [if_neg hx] at h
        have hh : 220 ≤ o ∧ o < 230 := by
          by_cases a1 : 220 ≤ o ∧ o < 230
          · exact a1
          · rw [if_neg a1] at h; cases h
        rw [if_neg (by omega), if_neg hx, if_neg (by omega), if_neg (by omega), if_neg (by omega)]
theorem ab_ce_ar {E : ab_E} {x : ab_X} {ad : Nat → Nat} {g : ab_G} {z : ab_H} {o t N : Nat} (ho : ab_ar x.1 z.2.1 o = some (t, N)) : ab_ce E x ad g z o = some (.inl (E.2.1 t, N, .inl (fun j => ii_n (z.1 o j)))) := by
  have h : ab_ob x.1 z.2.1 z.2.2.1 o = none := ab_ar_ob ho
  simp [ab_cel, h, ho]
theorem ab_HM_set {E : ab_E} {base : Nat} {x : ab_X} {ad : Nat → Nat} {z : ab_H} {s : State} {H H1 : Heap} {o : Nat} {e e1 : va_E} (h : ab_HM E base x ad z s H) (z1 : ab_H) (h2 : z1.2.1 = z.2.1) (h3 : z1.2.2.1 = z.2.2.1) (hrow : ∀ (o2 : Nat) (g : ab_G), o2 ≠ o → ab_ce E x ad g z1 o2 = ab_ce E x ad g z o2)
    (ho : ∀ g, ab_ce E x ad g z o = some e) (ho1 : ∀ g, ab_ce E x ad g z1 o = some e1) (hat : va_at E.1 vwCl (ad o, e1) H1) (hsz : H1.size = H.size) (hoth : ∀ q, q ≠ ad o → H1[q]? = H[q]?) : ab_HM E base x ad z1 s H1 := by
  obtain ⟨hK, hb, g, hg, hc, hi⟩ := h
  refine ⟨hK, by rw [hsz]; exact hb, g, (by unfold ab_gok at hg ⊢; rw [h2, h3]; exact hg), fun o2 e2 h2 => ?_, fun o2 o3 e2 e3 h2 h3 h4 => ?_⟩
  · by_cases hq : o2 = o
    · subst hq
      rw [ho1 g] at h2
      cases h2
      exact ⟨hat, (hc o2 _ (ho g)).2⟩
    · rw [hrow o2 g hq] at h2
      refine ⟨(hc o2 _ h2).1.kept (hoth _ (fun h9 => hq (hi o2 o _ _ h2 (ho g) h9))), (hc o2 _ h2).2⟩
  · have t : ∀ (o4 : Nat) (e4 : va_E), ab_ce E x ad g z1 o4 = some e4 → ∃ e5, ab_ce E x ad g z o4 = some e5 := by
      intro o4 e4 h
      by_cases hq : o4 = o
      · subst hq; exact ⟨_, ho g⟩
      · rw [hrow o4 g hq] at h; exact ⟨_, h⟩
    obtain ⟨e4, h5⟩ := t o2 e2 h2
    obtain ⟨e5, h6⟩ := t o3 e3 h3
    exact hi o2 o3 e4 e5 h5 h6 h4
section RowsH
variable {p : Program} {l : Launch} {e : Env} {R : Room} {s : State} {m : MethodId} {args : Array Value} {below : List Frame} {meth : Method} {c : Code} {E : ab_E} {base nL : Nat} {Q : State → Prop}
variable {own : String} {cc : ByteArray} {ret : Option FieldType} {x : ab_X} {ad : Nat → Nat} {z : ab_H} {k n pc : Nat} {L : List (Nat × Value)} {st : List Value}
theorem ab_get0 {C' : String} {T : u_T} {N ci i o : Nat} {ds : List (Option Nat)} {v : Value} {H : Heap} (C : ab_C p l s m args meth c E base nL own cc ret) (hw : ∀ w ∈ u_ws C' T N, w ∈ ab_all) (hc : vwCl[ci]? = some (C', T, N)) (hi : i < N) (hT : (T i).1 = C')
    (ho : ab_ob x.1 z.2.1 z.2.2.1 o = some (ci, ds)) (hv : (ab_fs ad (z.1 o) 0 ds)[i]? = some v) (h1 : ab_HM E base x ad z s H) :
    ∃ (cf fi : Nat) (kf : Class) (f : Field) (cell : Cell), s.fieldFound? C' (T i).2.1 (T i).2.2.1 = some (cf, kf, fi, f) ∧ f.isStatic = false ∧ H[ad o]? = some cell ∧ cell.vm ≠ .unknown ∧ cell.slots[f.slot]? = some v := by
  obtain ⟨hK, hbs, g, hg, hcel, -⟩ := h1
  obtain ⟨⟨r, hr1, cell, q1, q2, q3, q4⟩, -⟩ := hcel o _ (ab_ce_ob ho)
  have hr : r = (C', T, N) := Option.some.inj (hr1.symm.trans hc)
  subst hr
  obtain ⟨hS, hfc, kC, hkC, hkind⟩ := hK.1 ci _ hc
  obtain ⟨cf, kf, fi, f, hf, hsl⟩ := hS i hi
  refine ⟨cf, fi, kf, f, cell, by rw [← hf, hT], (u_facts hfc hkC (u_lays C.2.2.2.2.2.1 hw hi) hf).1, q1, (by rw [q3]; exact fun h => by cases h), ?_⟩
  rw [hsl, q4 i hi]
  simp [vp_V, hv]
theorem a_get {C' : String} {T : u_T} {N ci i o index : Nat} {ds : List (Option Nat)} {v : Value} (C : ab_C p l s m args meth c E base nL own cc ret) (hw : ∀ w ∈ u_ws C' T N, w ∈ ab_all) (hc : vwCl[ci]? = some (C', T, N)) (hi : i < N) (hT : (T i).1 = C')
    (hl : Cond.fieldLink own index C' (T i).2.1 (T i).2.2.1 ∈ ab_all) (ho : ab_ob x.1 z.2.1 z.2.2.1 o = some (ci, ds)) (hv : (ab_fs ad (z.1 o) 0 ds)[i]? = some v) (d : decode cc pc = .ok (.getfield index, 3)) (K : ab_W p l e R s m args below meth c E base nL Q x ad z k n (pc+3) L (v :: st)) : ab_W p l e R s m args below meth c E base nL Q x ad z k n pc L (.ref (ad o) :: st) := by
  intro H lo ls h1 h2 h3
  obtain ⟨cf, fi, kf, f, cell, a1, a2, a3, a4, a5⟩ := ab_get0 C hw hc hi hT ho hv h1
  exact W.getf C.1 C.2.1 C.2.2.2.2.1 (C.2.2.2.2.2.1 _ hl) a1 a2 a3 a4 a5 rfl rfl d (K H lo ls h1 h2 h3)
theorem a_getN {C' host : String} {T : u_T} {N ci i o index : Nat} {ds : List (Option Nat)} {v : Value} (C : ab_C p l s m args meth c E base nL own cc ret) (hw : ∀ w ∈ u_ws C' T N, w ∈ ab_all) (hc : vwCl[ci]? = some (C', T, N)) (hi : i < N) (hT : (T i).1 = C')
    (hl : Cond.fieldLinkNest own index C' (T i).2.1 (T i).2.2.1 host ∈ ab_nest) (ho : ab_ob x.1 z.2.1 z.2.2.1 o = some (ci, ds)) (hv : (ab_fs ad (z.1 o) 0 ds)[i]? = some v) (d : decode cc pc = .ok (.getfield index, 3)) (K : ab_W p l e R s m args below meth c E base nL Q x ad z k n (pc+3) L (v :: st)) : ab_W p l e R s m args below meth c E base nL Q x ad z k n pc L (.ref (ad o) :: st) := by
  intro H lo ls h1 h2 h3
  obtain ⟨cf, fi, kf, f, cell, a1, a2, a3, a4, a5⟩ := ab_get0 C hw hc hi hT ho hv h1
  exact va_Wgetf C.1 C.2.1 C.2.2.2.2.1 (va_Nw.use rfl (C.2.2.2.2.2.2.2.2.1.2.2.2.2.2 _ hl)) a1 a2 a3 a4 a5 rfl rfl d (K H lo ls h1 h2 h3)
theorem ab_put0 {C' : String} {T : u_T} {N ci i o : Nat} {ds : List (Option Nat)} {v : Int} {H : Heap} {ty : FieldType} (C : ab_C p l s m args meth c E base nL own cc ret) (hw : ∀ w ∈ u_ws C' T N, w ∈ ab_all) (hc : vwCl[ci]? = some (C', T, N)) (hi : i < N) (hT : (T i).1 = C')
    (t0 : Nat → FieldType) (hty : ∀ j, j < N → parseFieldDescriptor (T j).2.2.1 = some (t0 j)) (hnm : ∀ a, a < N → ∀ b, b < N → a ≠ b → (T a).2.1 ≠ (T b).2.1) (hfin : (T i).2.2.2 = false) (hd : t0 i = ty) (hn : narrow ty (ii_v v) = ii_v v) (hfit : fits ty (ii_v v) = true)
    (ho : ab_ob x.1 z.2.1 z.2.2.1 o = some (ci, ds)) (hv : ds[i]? = some none) (h1 : ab_HM E base x ad z s H) :
    ∃ (cf fi : Nat) (kf : Class) (f : Field) (cell : Cell), s.fieldFound? C' (T i).2.1 (T i).2.2.1 = some (cf, kf, fi, f) ∧ f.isStatic = false ∧ H[ad o]? = some cell ∧ cell.vm = .none ∧ k2_Sd s f cell.cls (ii_v v) ∧ f.slot < cell.slots.size ∧ base ≤ ad o ∧
      ∀ H1 : Heap, H1[ad o]? = some (cell.setSlot f.slot (ii_v v)) → H1.size = H.size → (∀ q, q ≠ ad o → H1[q]? = H[q]?) → ab_HM E base x ad (ii_up z.1 o i v, z.2) s H1 := by
  have hts := C.2.2.2.2.2.1
  have hHM := h1
  obtain ⟨hK, hbs, g, hg, hcel, -⟩ := h1
  have hap := va_apart (own := own) hts hw t0 hty hnm hK hc
  obtain ⟨⟨r, hr1, cell, q1, q2, q3, q4⟩, hbo⟩ := hcel o _ (ab_ce_ob ho)
  have hr : r = (C', T, N) := Option.some.inj (hr1.symm.trans hc)
  subst hr
  obtain ⟨hS, hfc, kC, hkC, hkind⟩ := hK.1 ci _ hc
  obtain ⟨cf, kf, fi, f, hf, hsl⟩ := hS i hi
  have hlay := hts _ (hw _ (u_in_lay hi))
  unfold u_lay at hlay
  rw [if_neg (by rw [hfin]; decide)] at hlay
  have hst := (u_facts hfc hkC (u_lays hts hw hi) hf).1
  have h6 := u_store hfc hkC hkind hlay hf ((hty i hi).trans (congrArg some hd)) hn hfit
  refine ⟨cf, fi, kf, f, cell, by rw [← hf, hT], hst, q1, q3, by rw [q2]; exact h6, by rw [hsl]; exact k2_hasslot (q4 i hi), hbo, fun H1 e1 e2 e3 => ?_⟩
  rw [hsl] at e1
  have hlen : i < (ab_fs ad (z.1 o) 0 ds).length := by
    rw [ab_fs_len]
    exact (List.getElem?_eq_some_iff.mp hv).1
  have hset : ab_fs ad (ii_up z.1 o i v o) 0 ds = (ab_fs ad (z.1 o) 0 ds).set i (ii_v v) := ab_fs_set ad (z.1 o) (ii_up z.1 o i v o) v 0 i ds hv (by rw [Nat.zero_add]; exact ii_up_s _ _ _ _) (fun q hq => ii_up_k _ _ (by omega))
  refine ab_HM_set (o := o) hHM (ii_up z.1 o i v, z.2) rfl rfl (fun o2 g h => ?_) (fun g => ab_ce_ob ho) (fun g => ab_ce_ob (z := (ii_up z.1 o i v, z.2)) ho) ?_ e2 e3
  · show ab_cel E x ad g z.2.1 z.2.2.1 z.2.2.2 (ii_up z.1 o i v o2) o2 = _
    rw [ii_up_row _ _ h]
  · refine ⟨_, hc, t_OB.to (V := updV (vp_V (ab_fs ad (z.1 o) 0 ds)) i (ii_v v)) ⟨_, e1, q2, q3, t_set q4 hap hi (ii_v v)⟩ (fun j _ => ?_)⟩
    rw [vp_updV_set hlen]
    show _ = vp_V (ab_fs ad (ii_up z.1 o i v o) 0 ds) j
    rw [hset]
theorem a_put {C' : String} {T : u_T} {N ci i o index : Nat} {ds : List (Option Nat)} {v : Int} {ty : FieldType} (C : ab_C p l s m args meth c E base nL own cc ret) (hw : ∀ w ∈ u_ws C' T N, w ∈ ab_all) (hc : vwCl[ci]? = some (C', T, N)) (hi : i < N) (hT : (T i).1 = C')
    (t0 : Nat → FieldType) (hty : ∀ j, j < N → parseFieldDescriptor (T j).2.2.1 = some (t0 j)) (hnm : ∀ a, a < N → ∀ b, b < N → a ≠ b → (T a).2.1 ≠ (T b).2.1) (hfin : (T i).2.2.2 = false) (hd : t0 i = ty)
    (hl : Cond.fieldLink own index C' (T i).2.1 (T i).2.2.1 ∈ ab_all) (ho : ab_ob x.1 z.2.1 z.2.2.1 o = some (ci, ds)) (hv : ds[i]? = some none) (hn : narrow ty (ii_v v) = ii_v v) (hfit : fits ty (ii_v v) = true) (d : decode cc pc = .ok (.putfield index, 3)) (K : ab_W p l e R s m args below meth c E base nL Q x ad ((ii_up z.1 o i v, z.2)) k n (pc+3) L st) : ab_W p l e R s m args below meth c E base nL Q x ad z k n pc L (ii_v v :: .ref (ad o) :: st) := by
  intro H lo ls h1 h2 h3
  obtain ⟨cf, fi, kf, f, cell, a1, a2, a3, a4, a5, a6, a7, a8⟩ := ab_put0 C hw hc hi hT t0 hty hnm hfin hd hn hfit ho hv h1
  exact W.putK C.1 C.2.1 ⟨C.2.2.2.2.1, C.2.2.2.2.2.1 _ hl, ⟨_, _, _, a1⟩, a2⟩ a5 a3 a4 a6 rfl rfl d fun H1 e1 e2 e3 => K H1 _ ls (a8 H1 e1 e2 e3) (h2.put e2 e3 a7) h3
theorem a_putN {C' host : String} {T : u_T} {N ci i o index : Nat} {ds : List (Option Nat)} {v : Int} {ty : FieldType} (C : ab_C p l s m args meth c E base nL own cc ret) (hw : ∀ w ∈ u_ws C' T N, w ∈ ab_all) (hc : vwCl[ci]? = some (C', T, N)) (hi : i < N) (hT : (T i).1 = C')
    (t0 : Nat → FieldType) (hty : ∀ j, j < N → parseFieldDescriptor (T j).2.2.1 = some (t0 j)) (hnm : ∀ a, a < N → ∀ b, b < N → a ≠ b → (T a).2.1 ≠ (T b).2.1) (hfin : (T i).2.2.2 = false) (hd : t0 i = ty)
    (hl : Cond.fieldLinkNest own index C' (T i).2.1 (T i).2.2.1 host ∈ ab_nest) (ho : ab_ob x.1 z.2.1 z.2.2.1 o = some (ci, ds)) (hv : ds[i]? = some none) (hn : narrow ty (ii_v v) = ii_v v) (hfit : fits ty (ii_v v) = true) (d : decode cc pc = .ok (.putfield index, 3)) (K : ab_W p l e R s m args below meth c E base nL Q x ad ((ii_up z.1 o i v, z.2)) k n (pc+3) L st) : ab_W p l e R s m args below meth c E base nL Q x ad z k n pc L (ii_v v :: .ref (ad o) :: st) := by
  intro H lo ls h1 h2 h3
  obtain ⟨cf, fi, kf, f, cell, a1, a2, a3, a4, a5, a6, a7, a8⟩ := ab_put0 C hw hc hi hT t0 hty hnm hfin hd hn hfit ho hv h1
  exact va_WputK C.1 C.2.1 (f := f) C.2.2.2.2.1 (va_Nw.use rfl (C.2.2.2.2.2.2.2.2.1.2.2.2.2.2 _ hl)) a1 a2 a5 a3 a4 a6 rfl rfl d fun H1 e1 e2 e3 => K H1 _ ls (a8 H1 e1 e2 e3) (h2.put e2 e3 a7) h3
theorem ab_cell_of {o t N : Nat} {H : Heap} (ho : ab_ar x.1 z.2.1 o = some (t, N)) (h1 : ab_HM E base x ad z s H) : H[ad o]? = some (arrV (E.2.1 t) N (fun j => ii_v (z.1 o j))) ∧ base ≤ ad o := by
  obtain ⟨hK, hbs, g, hg, hcel, -⟩ := h1
  exact hcel o _ (ab_ce_ar ho)
theorem a_iald {o N : Nat} {i : Int} (j : Nat) (C : ab_C p l s m args meth c E base nL own cc ret) (d : decode cc pc = .ok (.iaload, 1)) (ho : ab_ar x.1 z.2.1 o = some (0, N)) (hj : i = (j : Int)) (hN : j < N) (hN2 : N < 2147483648) (K : ab_W p l e R s m args below meth c E base nL Q x ad z k n (pc+1) L (ii_v (z.1 o j) :: st)) : ab_W p l e R s m args below meth c E base nL Q x ad z k n pc L (ii_v i :: .ref (ad o) :: st) := by
  intro H lo ls h1 h2 h3
  subst hj
  refine W.iald (v := ii_v (z.1 o j)) C.1 C.2.1 (ab_cell_of ho h1).1 ((h1.1.2 0 _ rfl).1 N (fun q => ii_v (z.1 o q))) (fun q => by cases q) (by rw [arrV_size]; exact ii_inN hN hN2) (by rw [ii_clampN (by omega)]; exact arrV_read _ _ hN) rfl rfl d (K H lo ls h1 h2 h3)
theorem a_cald {o N : Nat} {i : Int} (j : Nat) (C : ab_C p l s m args meth c E base nL own cc ret) (d : decode cc pc = .ok (.caload, 1)) (ho : ab_ar x.1 z.2.1 o = some (1, N)) (hj : i = (j : Int)) (hN : j < N) (hN2 : N < 2147483648) (K : ab_W p l e R s m args below meth c E base nL Q x ad z k n (pc+1) L (ii_v (z.1 o j) :: st)) : ab_W p l e R s m args below meth c E base nL Q x ad z k n pc L (ii_v i :: .ref (ad o) :: st) := by
  intro H lo ls h1 h2 h3
  subst hj
  refine W.cald (v := ii_v (z.1 o j)) C.1 C.2.1 (ab_cell_of ho h1).1 ((h1.1.2 1 _ rfl).1 N (fun q => ii_v (z.1 o q))) (fun q => by cases q) (by rw [arrV_size]; exact ii_inN hN hN2) (by rw [ii_clampN (by omega)]; exact arrV_read _ _ hN) rfl rfl d (K H lo ls h1 h2 h3)
theorem ab_set_ar {o t N j : Nat} {v : Int} {H H1 : Heap} (ho : ab_ar x.1 z.2.1 o = some (t, N)) (h1 : ab_HM E base x ad z s H) (e1 : H1[ad o]? = some ((arrV (E.2.1 t) N (fun q => ii_v (z.1 o q))).setSlot j (ii_v v))) (e2 : H1.size = H.size) (e3 : ∀ q, q ≠ ad o → H1[q]? = H[q]?) : ab_HM E base x ad (ii_up z.1 o j v, z.2) s H1 := by
  refine ab_HM_set (o := o) h1 (ii_up z.1 o j v, z.2) rfl rfl (fun o2 g h => ?_) (fun g => ab_ce_ar ho) (fun g => ab_ce_ar (z := (ii_up z.1 o j v, z.2)) ho) ?_ e2 e3
  · show ab_cel E x ad g z.2.1 z.2.2.1 z.2.2.2 (ii_up z.1 o j v o2) o2 = _
    rw [ii_up_row _ _ h]
  · show H1[ad o]? = some (arrV (E.2.1 t) N (fun q => ii_v (ii_up z.1 o j v o q)))
    rw [e1, arrV_store]
    congr 2
    funext q
    unfold updV
    by_cases hq : q = j
    · rw [if_pos hq, hq]
      show _ = ii_v (ii_up z.1 o j v o j)
      rw [ii_up_s]
    · rw [if_neg hq]
      show _ = ii_v (ii_up z.1 o j v o q)
      rw [ii_up_k _ _ hq]
theorem a_iast {o N : Nat} {i v : Int} (j : Nat) (C : ab_C p l s m args meth c E base nL own cc ret) (d : decode cc pc = .ok (.iastore, 1)) (ho : ab_ar x.1 z.2.1 o = some (0, N)) (hj : i = (j : Int)) (hN : j < N) (hN2 : N < 2147483648) (K : ab_W p l e R s m args below meth c E base nL Q x ad ((ii_up z.1 o j v, z.2)) k n (pc+1) L st) : ab_W p l e R s m args below meth c E base nL Q x ad z k n pc L (ii_v v :: ii_v i :: .ref (ad o) :: st) := by
  intro H lo ls h1 h2 h3
  subst hj
  refine W.iast C.1 C.2.1 (ab_cell_of ho h1).1 ((h1.1.2 0 _ rfl).1 N (fun q => ii_v (z.1 o q))) (fun q => by cases q) (by rw [arrV_size]; exact ii_inN hN hN2) rfl rfl d fun H1 e1 e2 e3 => ?_
  rw [ii_clampN (by omega)] at e1
  exact K H1 _ ls (ab_set_ar ho h1 e1 e2 e3) (h2.put e2 e3 (ab_cell_of ho h1).2) h3
theorem a_cast {o N : Nat} {i v : Int} (j : Nat) (C : ab_C p l s m args meth c E base nL own cc ret) (d : decode cc pc = .ok (.castore, 1)) (ho : ab_ar x.1 z.2.1 o = some (1, N)) (hj : i = (j : Int)) (hN : j < N) (hN2 : N < 2147483648) (hn : narrow .char (ii_v v) = ii_v v) (K : ab_W p l e R s m args below meth c E base nL Q x ad ((ii_up z.1 o j v, z.2)) k n (pc+1) L st) : ab_W p l e R s m args below meth c E base nL Q x ad z k n pc L (ii_v v :: ii_v i :: .ref (ad o) :: st) := by
  intro H lo ls h1 h2 h3
  subst hj
  refine W.cast C.1 C.2.1 (ab_cell_of ho h1).1 ((h1.1.2 1 _ rfl).1 N (fun q => ii_v (z.1 o q))) (fun q => by cases q) (by rw [arrV_size]; exact ii_inN hN hN2) rfl rfl d fun H1 e1 e2 e3 => ?_
  rw [ii_clampN (by omega), hn] at e1
  exact K H1 _ ls (ab_set_ar ho h1 e1 e2 e3) (h2.put e2 e3 (ab_cell_of ho h1).2) h3
theorem a_alen {o t N : Nat} (C : ab_C p l s m args meth c E base nL own cc ret) (d : decode cc pc = .ok (.arraylength, 1)) (ho : ab_ar x.1 z.2.1 o = some (t, N)) (ht : t = 0 ∨ t = 1) (K : ab_W p l e R s m args below meth c E base nL Q x ad z k n (pc+1) L (ii_v N :: st)) : ab_W p l e R s m args below meth c E base nL Q x ad z k n pc L (.ref (ad o) :: st) := by
  intro H lo ls h1 h2 h3
  have hn : (arrV (E.2.1 t) N (fun j => ii_v (z.1 o j))).slots.size.toInt32 = ii_n N := by
    rw [arrV_size]
    exact ii_nI N
  rcases ht with rfl | rfl
  · exact W.alen C.1 C.2.1 (ab_cell_of ho h1).1 ((h1.1.2 0 _ rfl).1 N (fun q => ii_v (z.1 o q))) hn rfl rfl d (K H lo ls h1 h2 h3)
  · exact W.alen C.1 C.2.1 (ab_cell_of ho h1).1 ((h1.1.2 1 _ rfl).1 N (fun q => ii_v (z.1 o q))) hn rfl rfl d (K H lo ls h1 h2 h3)
/-- the lists -/
theorem ab_ce_l1 {g : ab_G} (hx : x.1 ≠ 0) : ab_ce E x ad g z 1 = some (.inr (0, [.int (g.1 1), .ref (if g.2 1 = 0 then E.2.2 else ad 31), ii_v z.2.1])) := by
  have h1 : ab_ob x.1 z.2.1 z.2.2.1 1 = none := by simp [ab_ob, hx]
  have h2 : ab_ar x.1 z.2.1 1 = none := by simp [ab_ar, hx]
  simp [ab_cel, h1, h2, hx]
theorem ab_ce_l3 {g : ab_G} (hx : x.1 ≠ 0) : ab_ce E x ad g z 3 = some (.inr (0, [.int (g.1 3), .ref (if g.2 3 = 0 then E.2.2 else ad 33), ii_v z.2.2.1])) := by
  have h1 : ab_ob x.1 z.2.1 z.2.2.1 3 = none := by simp [ab_ob, hx]
  have h2 : ab_ar x.1 z.2.1 3 = none := by simp [ab_ar, hx]
  simp [ab_cel, h1, h2, hx]
theorem ab_ce_e1 {g : ab_G} (hx : x.1 ≠ 0) (hg : g.2 1 ≠ 0) : ab_ce E x ad g z 31 = some (.inl (E.2.1 2, g.2 1, .inr (.inr (.inr (.inr (ab_rows z.2.1 (fun j => ad (200 + j)))))))) := by
  have h1 : ab_ob x.1 z.2.1 z.2.2.1 31 = none := by simp [ab_ob, hx]
  have h2 : ab_ar x.1 z.2.1 31 = none := by simp [ab_ar, hx]
  simp [ab_cel, h1, h2, hx, hg]
theorem ab_ce_e3 {g : ab_G} (hx : x.1 ≠ 0) (hg : g.2 3 ≠ 0) : ab_ce E x ad g z 33 = some (.inl (E.2.1 2, g.2 3, .inr (.inr (.inr (.inr (ab_rows z.2.2.1 (fun j => ad (300 + j)))))))) := by
  have h1 : ab_ob x.1 z.2.1 z.2.2.1 33 = none := by simp [ab_ob, hx]
  have h2 : ab_ar x.1 z.2.1 33 = none := by simp [ab_ar, hx]
  simp [ab_cel, h1, h2, hx, hg]
/-- a field of a list, read; what it holds may hang on what isn't told -/
theorem ab_get0L {i o : Nat} {H : Heap} {fs : ab_G → List Value} (C : ab_C p l s m args meth c E base nL own cc ret) (hi : i < 3) (ho : ∀ g, ab_ce E x ad g z o = some (.inr (0, fs g))) (h1 : ab_HM E base x ad z s H) :
    ∃ (g : ab_G) (cf fi : Nat) (kf : Class) (f : Field) (cell : Cell), ab_gok g z ∧ s.fieldFound? (TJx4a65c i).1 (TJx4a65c i).2.1 (TJx4a65c i).2.2.1 = some (cf, kf, fi, f) ∧ f.isStatic = false ∧ H[ad o]? = some cell ∧ cell.vm ≠ .unknown ∧ cell.slots[f.slot]? = some (vp_V (fs g) i) := by
  obtain ⟨hK, hbs, g, hg, hcel, -⟩ := h1
  obtain ⟨⟨r, hr1, cell, q1, q2, q3, q4⟩, -⟩ := hcel o _ (ho g)
  have hc : vwCl[0]? = some (RJx4a65c, TJx4a65c, 3) := rfl
  have hr : r = (RJx4a65c, TJx4a65c, 3) := Option.some.inj (hr1.symm.trans hc)
  subst hr
  obtain ⟨hS, hfc, kC, hkC, hkind⟩ := hK.1 0 _ hc
  obtain ⟨cf, kf, fi, f, hf, hsl⟩ := hS i hi
  refine ⟨g, cf, fi, kf, f, cell, hg, hf, (u_facts hfc hkC (u_lays C.2.2.2.2.2.1 iw_Jx4a65c hi) hf).1, q1, (by rw [q3]; exact fun h => by cases h), ?_⟩
  rw [hsl, q4 i hi]
theorem a_lsize {o N : Nat} (C : ab_C p l s m args meth c E base nL RJx4a65c cc ret) (ho : (o = 1 ∧ N = z.2.1) ∨ (o = 3 ∧ N = z.2.2.1)) (hx : x.1 ≠ 0) {index : Nat} (hl : Cond.fieldLink RJx4a65c index RJx4a65c "size" "I" ∈ ab_all) (d : decode cc pc = .ok (.getfield index, 3)) (K : ab_W p l e R s m args below meth c E base nL Q x ad z k n (pc+3) L (ii_v N :: st)) : ab_W p l e R s m args below meth c E base nL Q x ad z k n pc L (.ref (ad o) :: st) := by
  intro H lo ls h1 h2 h3
  have hts := C.2.2.2.2.2.1
  rcases ho with ⟨rfl, rfl⟩ | ⟨rfl, rfl⟩
  · obtain ⟨g, cf, fi, kf, f, cell, hg, a1, a2, a3, a4, a5⟩ := ab_get0L (i := 2) C (by decide) (fun g => ab_ce_l1 hx) h1
    exact W.getf C.1 C.2.1 C.2.2.2.2.1 (hts _ hl) a1 a2 a3 a4 a5 rfl rfl d (K H lo ls h1 h2 h3)
  · obtain ⟨g, cf, fi, kf, f, cell, hg, a1, a2, a3, a4, a5⟩ := ab_get0L (i := 2) C (by decide) (fun g => ab_ce_l3 hx) h1
    exact W.getf C.1 C.2.1 C.2.2.2.2.1 (hts _ hl) a1 a2 a3 a4 a5 rfl rfl d (K H lo ls h1 h2 h3)
theorem a_ldata {o N : Nat} (C : ab_C p l s m args meth c E base nL RJx4a65c cc ret) (ho : (o = 1 ∧ N = z.2.1) ∨ (o = 3 ∧ N = z.2.2.1)) (hx : x.1 ≠ 0) (hN : 0 < N) {index : Nat} (hl : Cond.fieldLink RJx4a65c index RJx4a65c "elementData" "[Ljava/lang/Object;" ∈ ab_all) (d : decode cc pc = .ok (.getfield index, 3)) (K : ab_W p l e R s m args below meth c E base nL Q x ad z k n (pc+3) L (.ref (ad (o + 30)) :: st)) : ab_W p l e R s m args below meth c E base nL Q x ad z k n pc L (.ref (ad o) :: st) := by
  intro H lo ls h1 h2 h3
  have hts := C.2.2.2.2.2.1
  rcases ho with ⟨rfl, rfl⟩ | ⟨rfl, rfl⟩
  · obtain ⟨g, cf, fi, kf, f, cell, hg, a1, a2, a3, a4, a5⟩ := ab_get0L (i := 1) C (by decide) (fun g => ab_ce_l1 hx) h1
    have h9 : g.2 1 ≠ 0 := by have := hg.1; omega
    rw [if_neg h9] at a5
    exact W.getf C.1 C.2.1 C.2.2.2.2.1 (hts _ hl) a1 a2 a3 a4 a5 rfl rfl d (K H lo ls h1 h2 h3)
  · obtain ⟨g, cf, fi, kf, f, cell, hg, a1, a2, a3, a4, a5⟩ := ab_get0L (i := 1) C (by decide) (fun g => ab_ce_l3 hx) h1
    have h9 : g.2 3 ≠ 0 := by have := hg.2.2.1; omega
    rw [if_neg h9] at a5
    exact W.getf C.1 C.2.1 C.2.2.2.2.1 (hts _ hl) a1 a2 a3 a4 a5 rfl rfl d (K H lo ls h1 h2 h3)
theorem a_laald {o N b : Nat} {i : Int} (j : Nat) (C : ab_C p l s m args meth c E base nL own cc ret) (ho : (o = 1 ∧ N = z.2.1 ∧ b = 200) ∨ (o = 3 ∧ N = z.2.2.1 ∧ b = 300)) (hx : x.1 ≠ 0) (hi : i = (j : Int)) (hj : j < N) (d : decode cc pc = .ok (.aaload, 1)) (K : ab_W p l e R s m args below meth c E base nL Q x ad z k n (pc+1) L (.ref (ad (b + j)) :: st)) : ab_W p l e R s m args below meth c E base nL Q x ad z k n pc L (ii_v i :: .ref (ad (o + 30)) :: st) := by
  intro H lo ls h1 h2 h3
  have hHM := h1
  obtain ⟨hK, hbs, g, hg, hcel, -⟩ := h1
  subst hi
  rcases ho with ⟨rfl, rfl, rfl⟩ | ⟨rfl, rfl, rfl⟩
  · have h9 : g.2 1 ≠ 0 := by have := hg.1; omega
    have hlt : j < g.2 1 := by have := hg.1; omega
    have hc := (hcel 31 _ (ab_ce_e1 hx h9)).1
    refine va_aldq (ws := [(ad 31, .inl (E.2.1 2, g.2 1, .inr (.inr (.inr (.inr (ab_rows z.2.1 (fun j => ad (200 + j))))))))]) C.1 C.2.1 hK (fun k q hk => ?_) 0 2 rfl rfl (ii_inN hlt (by have := hg.2.1; omega)) d ?_
    · cases k with
      | zero => cases hk; exact hc
      | succ k => simp at hk
    · rw [ii_clampN (by have := hg.2.1; omega)]
      simp only [ab_rows, if_pos hj]
      exact K H lo ls hHM h2 h3
  · have h9 : g.2 3 ≠ 0 := by have := hg.2.2.1; omega
    have hlt : j < g.2 3 := by have := hg.2.2.1; omega
    have hc := (hcel 33 _ (ab_ce_e3 hx h9)).1
    refine va_aldq (ws := [(ad 33, .inl (E.2.1 2, g.2 3, .inr (.inr (.inr (.inr (ab_rows z.2.2.1 (fun j => ad (300 + j))))))))]) C.1 C.2.1 hK (fun k q hk => ?_) 0 2 rfl rfl (ii_inN hlt (by have := hg.2.2.2; omega)) d ?_
    · cases k with
      | zero => cases hk; exact hc
      | succ k => simp at hk
    · rw [ii_clampN (by have := hg.2.2.2; omega)]
      simp only [ab_rows, if_pos hj]
      exact K H lo ls hHM h2 h3
end RowsH
