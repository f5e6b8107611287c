/-! The cases of the law. -/
section LW
variable {p : Program} {l : Launch} {e : Env} {R : Room} {s : State} {m : MethodId} {args : Array Value} {below : List Frame} {meth : Method} {c : Code} {E : ab_E} {base nL : Nat} {Q : State → Prop}
variable {own : String} {cc : ByteArray} {ret : Option FieldType} {x : ab_X} {ad : Nat → Nat} {z : ab_H} {k n pc : Nat} {L : List (Nat × Value)} {st : List Value}
/-- a number of the script -/
theorem a_siald {bS Lx j : Nat} {xs : Nat → Int32} {i : Int} (C : ab_C p l s m args meth c E base nL own cc ret) (hX : va_X bS Lx xs s s.heap) (hbl : bS < s.heap.size) (hbA : ¬ ab_A base bS) (hi : i = (j : Int)) (hj : j < Lx) (hL : Lx < 2147483648) (d : decode cc pc = .ok (.iaload, 1)) (K : ab_W p l e R s m args below meth c E base nL Q x ad z k n (pc + 1) L (ii_v (xs j).toInt :: st)) : ab_W p l e R s m args below meth c E base nL Q x ad z k n pc L (ii_v i :: .ref bS :: st) := by
  intro H lo ls h1 h2 h3
  subst hi
  refine va_sld C.1 C.2.1 hX hbl hbA h2 (ii_inN hj hL) d ?_
  rw [ii_clampN (by omega)]
  have := K H lo ls h1 h2 h3
  rw [ii_vof] at this
  exact this
theorem a_salen {bS Lx : Nat} {xs : Nat → Int32} (C : ab_C p l s m args meth c E base nL own cc ret) (hX : va_X bS Lx xs s s.heap) (hbl : bS < s.heap.size) (hbA : ¬ ab_A base bS) (d : decode cc pc = .ok (.arraylength, 1)) (K : ab_W p l e R s m args below meth c E base nL Q x ad z k n (pc + 1) L (ii_v ((Lx : Nat) : Int) :: st)) : ab_W p l e R s m args below meth c E base nL Q x ad z k n pc L (.ref bS :: st) := by
  intro H lo ls h1 h2 h3
  refine va_slen C.1 C.2.1 hX hbl hbA h2 d ?_
  have := K H lo ls h1 h2 h3
  unfold ii_v at this
  rw [← ii_nI] at this
  exact this
theorem ab_more {k2 n2 : Nat} (h1 : k ≤ k2) (h2 : n ≤ n2) (K : ab_W p l e R s m args below meth c E base nL Q x ad z k2 n2 pc L st) : ab_W p l e R s m args below meth c E base nL Q x ad z k n pc L st :=
  fun H lo ls g1 g2 g3 => W.widen h1 h2 (K H lo ls g1 g2 g3)
end LW
/-- what stands at the end of a case -/
def lw_K (p : Program) (l : Launch) (e : Env) (s : State) (m : MethodId) (args : Array Value) (below : List Frame) (meth : Method) (c : Code) (E : ab_E) (base : Nat) (Q : State → Prop) (bS : Nat) (tm : Int) (k n i : Nat) : Prop :=
  ∀ (ad0 ad1 : Nat → Nat) (f1 a1 : Nat → Nat → Int) (TS1 : Nat → List Nat) (nb1 nr1 : Nat) (ol1 : Int64 × UInt64), CL f1 a1 TS1 nb1 nr1 ∧ ML f1 a1 TS1 nb1 nr1 ∧ ST a1 TS1 nb1 nr1 (tm + 60) → (∀ o, (o = 0 ∨ o = 40 ∨ o = 90 ∨ o = 91) → ad1 o = ad0 o) →
    ab_W p l e (ab_rm 20 601024 7293034) s m args below meth c E base 8 Q ab_x4 ad1 (f1, nb1, nr1, ol1) (k + 4) (n + 150) 2612 [(0, .ref bS), (1, .ref (ad1 0)), (2, .ref (ad1 40)), (3, .ref (ad1 90)), (4, .ref (ad1 91)), (5, ii_v ((i : Nat) : Int))] []
set_option maxHeartbeats 1000000 in
theorem lc_setDetour {p : Program} {l : Launch} {e : Env} {s : State} {m : MethodId} {args : Array Value} {below : List Frame} {meth : Method} {c : Code} {E : ab_E} {base : Nat} {Q : State → Prop} (C : ab_C p l s m args meth c E base 8 RL cL_law (some .boolean)) (hl : l.stackTraces = false) (hN : ab_NC s) {bS Lx : Nat} {xs : Nat → Int32} (hX : va_X bS Lx xs s s.heap) (hbl : bS < s.heap.size) (hbA : ¬ ab_A base bS) (hLx : Lx ≤ 3072) {ad : Nat → Nat} {f a : Nat → Nat → Int} {TS : Nat → List Nat} {nb nr : Nat} {tm : Int} {vL : Int64} {vD : UInt64} {k n i : Nat} (hI : IS f a TS nb nr tm) (hi : i + 6 ≤ Lx) (hk : k + 4 ≤ 601024) (hn : n + 150 ≤ 7293034) (K : lw_K p l e s m args below meth c E base Q bS tm k n i) : ab_W p l e (ab_rm 20 601024 7293034) s m args below meth c E base 8 Q ab_x4 ad (f, nb, nr, vL, vD) k n 220 [(0, .ref bS), (1, .ref (ad 0)), (2, .ref (ad 40)), (3, .ref (ad 90)), (4, .ref (ad 91)), (5, ii_v ((i : Nat) : Int))] [] := by
  obtain ⟨v1, e1⟩ : ∃ v : Int, v = (xs (i + 1)).toInt := ⟨_, rfl⟩
  have z1 : -2147483648 ≤ v1 ∧ v1 < 2147483648 := by rw [e1]; exact ii_Bof _
  obtain ⟨kk, u, v, a2, TS2, nb2, nr2, hS2, hkv, hkl, hZ, hMz⟩ := z_setDetour (E := E) (base := base) (ad := ad) (ol := (vL, vD)) hl hI v1 z1
  have hkl : kk ≤ 1 := hkl
  refine a_aload_n C dL_law_220 rfl ?_
  refine a_aload_n C dL_law_221 rfl ?_
  refine a_iload C dL_law_222 rfl ?_
  refine a_iconst C dL_law_224 ?_
  refine a_iadd C dL_law_225 ?_
  refine a_siald (j := i + 1) C hX hbl hbA (by omega) (by omega) (by omega) dL_law_226 ?_
  rw [← e1]
  refine a_aload_n C dL_law_227 rfl ?_
  refine a_callSH (As := [.ref (ad 0), ii_v v1, .ref (ad 90)]) C hN (w_setDetour hl hkl hZ) co_L_setDetour in_L ml_L_142 sc_L_setDetour ar_L_setDetour ⟨by decide, by decide, by omega, by omega⟩ rfl (Nat.le_of_ble_eq_true rfl) dL_law_228 (fun ov x1 ad1 z1 hp => ?_) (fun X x1 ad1 z1 hp => by cases hp.2.2.1)
  obtain ⟨h1, h2, h3, h4, h5, h6⟩ := hp
  obtain ⟨g, w9⟩ := z1
  cases h3
  cases h2
  subst h1
  dsimp only at h4 h5
  rw [← h6 0 (by decide), ← h6 40 (by decide), ← h6 90 (by decide), ← h6 91 (by decide)]
  refine a_istore (L' := [(0, .ref bS), (1, .ref (ad1 0)), (2, .ref (ad1 40)), (3, .ref (ad1 90)), (4, .ref (ad1 91)), (5, ii_v ((i : Nat) : Int)), (6, ii_v ((kk : Nat) : Int))]) C dL_law_231 (by decide) rfl ?_
  refine a_aload_n C dL_law_233 rfl ?_
  refine a_aload_n C dL_law_234 rfl ?_
  refine a_iload C dL_law_235 rfl ?_
  refine a_iconst C dL_law_237 ?_
  refine a_iadd C dL_law_238 ?_
  refine a_siald (j := i + 1) C hX hbl hbA (by omega) (by omega) (by omega) dL_law_239 ?_
  rw [← e1]
  obtain ⟨d2, Post2, hd2, hM2, hP2⟩ := hMz ad1 g _ h4 (ML_k hI.2.1 h5)
  refine a_callV (o := 40) (As := [ii_v v1]) C hM2 co_X10_setDetour in_X10 ml_L_147 im_X10_setDetour se_X10_setDetour rfl rfl ar_X10_setDetour ⟨by omega, by decide, by omega, by omega⟩ rfl (Nat.le_of_ble_eq_true rfl) dL_law_240 (fun ov x1 ad2 z1 hp => ?_) (fun X x1 ad2 z1 hp => by cases (hP2 _ _ _ _ hp).2.2.2.1)
  obtain ⟨m1, m2, m3, m4, m5, m6, m7⟩ := hP2 _ _ _ _ hp
  obtain ⟨h, w9⟩ := z1
  cases m4
  cases m3
  subst m1 m2
  dsimp only at m5 m6 m7
  refine a_istore (L' := [(0, .ref bS), (1, .ref (ad2 0)), (2, .ref (ad2 40)), (3, .ref (ad2 90)), (4, .ref (ad2 91)), (5, ii_v ((i : Nat) : Int)), (6, ii_v ((kk : Nat) : Int)), (7, ii_v v)]) C dL_law_243 (by decide) rfl ?_
  refine a_aload_n C dL_law_245 rfl ?_
  refine a_callV (o := 40) (As := []) C (m_thrown hl h _) co_X10_thrown in_X10 ml_L_148 im_X10_thrown se_X10_thrown rfl rfl ar_X10_thrown ⟨by decide, by decide, by omega, by omega⟩ rfl (Nat.le_of_ble_eq_true rfl) dL_law_246 (a_dR ?_) a_nR
  rw [m7]
  refine a_iload C dL_law_249 rfl ?_
  refine a_icmp_eq (tgt := 256) C dL_law_251 rfl (by unfold ii_B; omega) (by unfold ii_B; omega) (fun _ => ?_) (fun hz => absurd rfl hz)
  refine a_iload C dL_law_256 rfl ?_
  refine a_if_ne (tgt := 273) C dL_law_258 rfl (by unfold ii_B; omega) (fun hz => ?_) (fun hz => ?_)
  · skip
    refine a_goto (tgt := 2612) C dL_law_273 rfl ?_
    refine a_pick [0, 1, 2, 3, 4, 5] (L2 := [(0, .ref bS), (1, .ref (ad2 0)), (2, .ref (ad2 40)), (3, .ref (ad2 90)), (4, .ref (ad2 91)), (5, ii_v ((i : Nat) : Int))]) rfl ?_
    exact K _ _ _ _ _ _ _ _ ⟨CL_k h4 m6, m5, hS2⟩ h6
  · have hk0 : kk = 0 := by omega
    subst hk0
    rw [if_pos rfl, ← hkv rfl]
    refine a_aload_n C dL_law_261 rfl ?_
    refine a_iconst C dL_law_262 ?_
    refine a_lald C dL_law_263 ?_
    refine a_iload C dL_law_264 rfl ?_
    refine a_i2l C dL_law_266 ?_
    refine a_lcmpE C dL_law_267 ?_
    refine a_if_eq (tgt := 273) C dL_law_268 rfl (by unfold ii_B; omega) (fun _ => ?_) (fun hz => absurd rfl hz)
    refine a_goto (tgt := 2612) C dL_law_273 rfl ?_
    refine a_pick [0, 1, 2, 3, 4, 5] (L2 := [(0, .ref bS), (1, .ref (ad2 0)), (2, .ref (ad2 40)), (3, .ref (ad2 90)), (4, .ref (ad2 91)), (5, ii_v ((i : Nat) : Int))]) rfl ?_
    exact K _ _ _ _ _ _ _ _ ⟨CL_k h4 m6, m5, hS2⟩ h6
set_option maxHeartbeats 1000000 in
theorem lc_setWait {p : Program} {l : Launch} {e : Env} {s : State} {m : MethodId} {args : Array Value} {below : List Frame} {meth : Method} {c : Code} {E : ab_E} {base : Nat} {Q : State → Prop} (C : ab_C p l s m args meth c E base 8 RL cL_law (some .boolean)) (hl : l.stackTraces = false) (hN : ab_NC s) {bS Lx : Nat} {xs : Nat → Int32} (hX : va_X bS Lx xs s s.heap) (hbl : bS < s.heap.size) (hbA : ¬ ab_A base bS) (hLx : Lx ≤ 3072) {ad : Nat → Nat} {f a : Nat → Nat → Int} {TS : Nat → List Nat} {nb nr : Nat} {tm : Int} {vL : Int64} {vD : UInt64} {k n i : Nat} (hI : IS f a TS nb nr tm) (hi : i + 6 ≤ Lx) (hk : k + 4 ≤ 601024) (hn : n + 150 ≤ 7293034) (K : lw_K p l e s m args below meth c E base Q bS tm k n i) : ab_W p l e (ab_rm 20 601024 7293034) s m args below meth c E base 8 Q ab_x4 ad (f, nb, nr, vL, vD) k n 276 [(0, .ref bS), (1, .ref (ad 0)), (2, .ref (ad 40)), (3, .ref (ad 90)), (4, .ref (ad 91)), (5, ii_v ((i : Nat) : Int))] [] := by
  obtain ⟨v1, e1⟩ : ∃ v : Int, v = (xs (i + 1)).toInt := ⟨_, rfl⟩
  have z1 : -2147483648 ≤ v1 ∧ v1 < 2147483648 := by rw [e1]; exact ii_Bof _
  obtain ⟨kk, u, v, a2, TS2, nb2, nr2, hS2, hkv, hkl, hZ, hMz⟩ := z_setWait (E := E) (base := base) (ad := ad) (ol := (vL, vD)) hl hI v1 z1
  have hkl : kk ≤ 1 := hkl
  refine a_aload_n C dL_law_276 rfl ?_
  refine a_aload_n C dL_law_277 rfl ?_
  refine a_iload C dL_law_278 rfl ?_
  refine a_iconst C dL_law_280 ?_
  refine a_iadd C dL_law_281 ?_
  refine a_siald (j := i + 1) C hX hbl hbA (by omega) (by omega) (by omega) dL_law_282 ?_
  rw [← e1]
  refine a_aload_n C dL_law_283 rfl ?_
  refine a_callSH (As := [.ref (ad 0), ii_v v1, .ref (ad 90)]) C hN (w_setWait hl hkl hZ) co_L_setWait in_L ml_L_151 sc_L_setWait ar_L_setWait ⟨by decide, by decide, by omega, by omega⟩ rfl (Nat.le_of_ble_eq_true rfl) dL_law_284 (fun ov x1 ad1 z1 hp => ?_) (fun X x1 ad1 z1 hp => by cases hp.2.2.1)
  obtain ⟨h1, h2, h3, h4, h5, h6⟩ := hp
  obtain ⟨g, w9⟩ := z1
  cases h3
  cases h2
  subst h1
  dsimp only at h4 h5
  rw [← h6 0 (by decide), ← h6 40 (by decide), ← h6 90 (by decide), ← h6 91 (by decide)]
  refine a_istore (L' := [(0, .ref bS), (1, .ref (ad1 0)), (2, .ref (ad1 40)), (3, .ref (ad1 90)), (4, .ref (ad1 91)), (5, ii_v ((i : Nat) : Int)), (6, ii_v ((kk : Nat) : Int))]) C dL_law_287 (by decide) rfl ?_
  refine a_aload_n C dL_law_289 rfl ?_
  refine a_aload_n C dL_law_290 rfl ?_
  refine a_iload C dL_law_291 rfl ?_
  refine a_iconst C dL_law_293 ?_
  refine a_iadd C dL_law_294 ?_
  refine a_siald (j := i + 1) C hX hbl hbA (by omega) (by omega) (by omega) dL_law_295 ?_
  rw [← e1]
  obtain ⟨d2, Post2, hd2, hM2, hP2⟩ := hMz ad1 g _ h4 (ML_k hI.2.1 h5)
  refine a_callV (o := 40) (As := [ii_v v1]) C hM2 co_X10_setWait in_X10 ml_L_153 im_X10_setWait se_X10_setWait rfl rfl ar_X10_setWait ⟨by omega, by decide, by omega, by omega⟩ rfl (Nat.le_of_ble_eq_true rfl) dL_law_296 (fun ov x1 ad2 z1 hp => ?_) (fun X x1 ad2 z1 hp => by cases (hP2 _ _ _ _ hp).2.2.2.1)
  obtain ⟨m1, m2, m3, m4, m5, m6, m7⟩ := hP2 _ _ _ _ hp
  obtain ⟨h, w9⟩ := z1
  cases m4
  cases m3
  subst m1 m2
  dsimp only at m5 m6 m7
  refine a_istore (L' := [(0, .ref bS), (1, .ref (ad2 0)), (2, .ref (ad2 40)), (3, .ref (ad2 90)), (4, .ref (ad2 91)), (5, ii_v ((i : Nat) : Int)), (6, ii_v ((kk : Nat) : Int)), (7, ii_v v)]) C dL_law_299 (by decide) rfl ?_
  refine a_aload_n C dL_law_301 rfl ?_
  refine a_callV (o := 40) (As := []) C (m_thrown hl h _) co_X10_thrown in_X10 ml_L_148 im_X10_thrown se_X10_thrown rfl rfl ar_X10_thrown ⟨by decide, by decide, by omega, by omega⟩ rfl (Nat.le_of_ble_eq_true rfl) dL_law_302 (a_dR ?_) a_nR
  rw [m7]
  refine a_iload C dL_law_305 rfl ?_
  refine a_icmp_eq (tgt := 312) C dL_law_307 rfl (by unfold ii_B; omega) (by unfold ii_B; omega) (fun _ => ?_) (fun hz => absurd rfl hz)
  refine a_iload C dL_law_312 rfl ?_
  refine a_if_ne (tgt := 329) C dL_law_314 rfl (by unfold ii_B; omega) (fun hz => ?_) (fun hz => ?_)
  · skip
    refine a_goto (tgt := 2612) C dL_law_329 rfl ?_
    refine a_pick [0, 1, 2, 3, 4, 5] (L2 := [(0, .ref bS), (1, .ref (ad2 0)), (2, .ref (ad2 40)), (3, .ref (ad2 90)), (4, .ref (ad2 91)), (5, ii_v ((i : Nat) : Int))]) rfl ?_
    exact K _ _ _ _ _ _ _ _ ⟨CL_k h4 m6, m5, hS2⟩ h6
  · have hk0 : kk = 0 := by omega
    subst hk0
    rw [if_pos rfl, ← hkv rfl]
    refine a_aload_n C dL_law_317 rfl ?_
    refine a_iconst C dL_law_318 ?_
    refine a_lald C dL_law_319 ?_
    refine a_iload C dL_law_320 rfl ?_
    refine a_i2l C dL_law_322 ?_
    refine a_lcmpE C dL_law_323 ?_
    refine a_if_eq (tgt := 329) C dL_law_324 rfl (by unfold ii_B; omega) (fun _ => ?_) (fun hz => absurd rfl hz)
    refine a_goto (tgt := 2612) C dL_law_329 rfl ?_
    refine a_pick [0, 1, 2, 3, 4, 5] (L2 := [(0, .ref bS), (1, .ref (ad2 0)), (2, .ref (ad2 40)), (3, .ref (ad2 90)), (4, .ref (ad2 91)), (5, ii_v ((i : Nat) : Int))]) rfl ?_
    exact K _ _ _ _ _ _ _ _ ⟨CL_k h4 m6, m5, hS2⟩ h6
set_option maxHeartbeats 1000000 in
theorem lc_addBus {p : Program} {l : Launch} {e : Env} {s : State} {m : MethodId} {args : Array Value} {below : List Frame} {meth : Method} {c : Code} {E : ab_E} {base : Nat} {Q : State → Prop} (C : ab_C p l s m args meth c E base 8 RL cL_law (some .boolean)) (hl : l.stackTraces = false) (hN : ab_NC s) {bS Lx : Nat} {xs : Nat → Int32} (hX : va_X bS Lx xs s s.heap) (hbl : bS < s.heap.size) (hbA : ¬ ab_A base bS) (hLx : Lx ≤ 3072) {ad : Nat → Nat} {f a : Nat → Nat → Int} {TS : Nat → List Nat} {nb nr : Nat} {tm : Int} {vL : Int64} {vD : UInt64} {k n i : Nat} (hI : IS f a TS nb nr tm) (hi : i + 6 ≤ Lx) (hk : k + 4 ≤ 601024) (hn : n + 150 ≤ 7293034) (K : lw_K p l e s m args below meth c E base Q bS tm k n i) : ab_W p l e (ab_rm 20 601024 7293034) s m args below meth c E base 8 Q ab_x4 ad (f, nb, nr, vL, vD) k n 332 [(0, .ref bS), (1, .ref (ad 0)), (2, .ref (ad 40)), (3, .ref (ad 90)), (4, .ref (ad 91)), (5, ii_v ((i : Nat) : Int))] [] := by
  obtain ⟨v1, e1⟩ : ∃ v : Int, v = (xs (i + 1)).toInt := ⟨_, rfl⟩
  have z1 : -2147483648 ≤ v1 ∧ v1 < 2147483648 := by rw [e1]; exact ii_Bof _
  obtain ⟨v2, e2⟩ : ∃ v : Int, v = (xs (i + 2)).toInt := ⟨_, rfl⟩
  have z2 : -2147483648 ≤ v2 ∧ v2 < 2147483648 := by rw [e2]; exact ii_Bof _
  obtain ⟨v3, e3⟩ : ∃ v : Int, v = (xs (i + 3)).toInt := ⟨_, rfl⟩
  have z3 : -2147483648 ≤ v3 ∧ v3 < 2147483648 := by rw [e3]; exact ii_Bof _
  obtain ⟨v4, e4⟩ : ∃ v : Int, v = (xs (i + 4)).toInt := ⟨_, rfl⟩
  have z4 : -2147483648 ≤ v4 ∧ v4 < 2147483648 := by rw [e4]; exact ii_Bof _
  obtain ⟨kk, u, v, a2, TS2, nb2, nr2, hS2, hkv, hkl, hZ, hMz⟩ := z_addBus (E := E) (base := base) (ad := ad) (ol := (vL, vD)) hl hI v1 v2 v3 v4 z1 z2 z3 z4
  have hkl : kk ≤ 2 := hkl
  refine a_aload_n C dL_law_332 rfl ?_
  refine a_aload_n C dL_law_333 rfl ?_
  refine a_iload C dL_law_334 rfl ?_
  refine a_iconst C dL_law_336 ?_
  refine a_iadd C dL_law_337 ?_
  refine a_siald (j := i + 1) C hX hbl hbA (by omega) (by omega) (by omega) dL_law_338 ?_
  rw [← e1]
  refine a_aload_n C dL_law_339 rfl ?_
  refine a_iload C dL_law_340 rfl ?_
  refine a_iconst C dL_law_342 ?_
  refine a_iadd C dL_law_343 ?_
  refine a_siald (j := i + 2) C hX hbl hbA (by omega) (by omega) (by omega) dL_law_344 ?_
  rw [← e2]
  refine a_aload_n C dL_law_345 rfl ?_
  refine a_iload C dL_law_346 rfl ?_
  refine a_iconst C dL_law_348 ?_
  refine a_iadd C dL_law_349 ?_
  refine a_siald (j := i + 3) C hX hbl hbA (by omega) (by omega) (by omega) dL_law_350 ?_
  rw [← e3]
  refine a_aload_n C dL_law_351 rfl ?_
  refine a_iload C dL_law_352 rfl ?_
  refine a_iconst C dL_law_354 ?_
  refine a_iadd C dL_law_355 ?_
  refine a_siald (j := i + 4) C hX hbl hbA (by omega) (by omega) (by omega) dL_law_356 ?_
  rw [← e4]
  refine a_aload_n C dL_law_357 rfl ?_
  refine a_callSH (As := [.ref (ad 0), ii_v v1, ii_v v2, ii_v v3, ii_v v4, .ref (ad 90)]) C hN (w_addBus hl hkl hZ) co_L_addBus in_L ml_L_154 sc_L_addBus ar_L_addBus ⟨by decide, by decide, by omega, by omega⟩ rfl (Nat.le_of_ble_eq_true rfl) dL_law_358 (fun ov x1 ad1 z1 hp => ?_) (fun X x1 ad1 z1 hp => by cases hp.2.2.1)
  obtain ⟨h1, h2, h3, h4, h5, h6⟩ := hp
  obtain ⟨g, w9⟩ := z1
  cases h3
  cases h2
  subst h1
  dsimp only at h4 h5
  rw [← h6 0 (by decide), ← h6 40 (by decide), ← h6 90 (by decide), ← h6 91 (by decide)]
  refine a_istore (L' := [(0, .ref bS), (1, .ref (ad1 0)), (2, .ref (ad1 40)), (3, .ref (ad1 90)), (4, .ref (ad1 91)), (5, ii_v ((i : Nat) : Int)), (6, ii_v ((kk : Nat) : Int))]) C dL_law_361 (by decide) rfl ?_
  refine a_aload_n C dL_law_363 rfl ?_
  refine a_aload_n C dL_law_364 rfl ?_
  refine a_iload C dL_law_365 rfl ?_
  refine a_iconst C dL_law_367 ?_
  refine a_iadd C dL_law_368 ?_
  refine a_siald (j := i + 1) C hX hbl hbA (by omega) (by omega) (by omega) dL_law_369 ?_
  rw [← e1]
  refine a_aload_n C dL_law_370 rfl ?_
  refine a_iload C dL_law_371 rfl ?_
  refine a_iconst C dL_law_373 ?_
  refine a_iadd C dL_law_374 ?_
  refine a_siald (j := i + 2) C hX hbl hbA (by omega) (by omega) (by omega) dL_law_375 ?_
  rw [← e2]
  refine a_aload_n C dL_law_376 rfl ?_
  refine a_iload C dL_law_377 rfl ?_
  refine a_iconst C dL_law_379 ?_
  refine a_iadd C dL_law_380 ?_
  refine a_siald (j := i + 3) C hX hbl hbA (by omega) (by omega) (by omega) dL_law_381 ?_
  rw [← e3]
  refine a_aload_n C dL_law_382 rfl ?_
  refine a_iload C dL_law_383 rfl ?_
  refine a_iconst C dL_law_385 ?_
  refine a_iadd C dL_law_386 ?_
  refine a_siald (j := i + 4) C hX hbl hbA (by omega) (by omega) (by omega) dL_law_387 ?_
  rw [← e4]
  obtain ⟨d2, Post2, hd2, hM2, hP2⟩ := hMz ad1 g _ h4 (ML_k hI.2.1 h5)
  refine a_callV (o := 40) (As := [ii_v v1, ii_v v2, ii_v v3, ii_v v4]) C hM2 co_X10_addBus in_X10 ml_L_157 im_X10_addBus se_X10_addBus rfl rfl ar_X10_addBus ⟨by omega, by decide, by omega, by omega⟩ rfl (Nat.le_of_ble_eq_true rfl) dL_law_388 (fun ov x1 ad2 z1 hp => ?_) (fun X x1 ad2 z1 hp => by cases (hP2 _ _ _ _ hp).2.2.2.1)
  obtain ⟨m1, m2, m3, m4, m5, m6, m7⟩ := hP2 _ _ _ _ hp
  obtain ⟨h, w9⟩ := z1
  cases m4
  cases m3
  subst m1 m2
  dsimp only at m5 m6 m7
  refine a_istore (L' := [(0, .ref bS), (1, .ref (ad2 0)), (2, .ref (ad2 40)), (3, .ref (ad2 90)), (4, .ref (ad2 91)), (5, ii_v ((i : Nat) : Int)), (6, ii_v ((kk : Nat) : Int)), (7, ii_v v)]) C dL_law_391 (by decide) rfl ?_
  refine a_aload_n C dL_law_393 rfl ?_
  refine a_callV (o := 40) (As := []) C (m_thrown hl h _) co_X10_thrown in_X10 ml_L_148 im_X10_thrown se_X10_thrown rfl rfl ar_X10_thrown ⟨by decide, by decide, by omega, by omega⟩ rfl (Nat.le_of_ble_eq_true rfl) dL_law_394 (a_dR ?_) a_nR
  rw [m7]
  refine a_iload C dL_law_397 rfl ?_
  refine a_icmp_eq (tgt := 404) C dL_law_399 rfl (by unfold ii_B; omega) (by unfold ii_B; omega) (fun _ => ?_) (fun hz => absurd rfl hz)
  refine a_iload C dL_law_404 rfl ?_
  refine a_if_ne (tgt := 421) C dL_law_406 rfl (by unfold ii_B; omega) (fun hz => ?_) (fun hz => ?_)
  · skip
    refine a_goto (tgt := 2612) C dL_law_421 rfl ?_
    refine a_pick [0, 1, 2, 3, 4, 5] (L2 := [(0, .ref bS), (1, .ref (ad2 0)), (2, .ref (ad2 40)), (3, .ref (ad2 90)), (4, .ref (ad2 91)), (5, ii_v ((i : Nat) : Int))]) rfl ?_
    exact K _ _ _ _ _ _ _ _ ⟨CL_k h4 m6, m5, hS2⟩ h6
  · have hk0 : kk = 0 := by omega
    subst hk0
    rw [if_pos rfl, ← hkv rfl]
    refine a_aload_n C dL_law_409 rfl ?_
    refine a_iconst C dL_law_410 ?_
    refine a_lald C dL_law_411 ?_
    refine a_iload C dL_law_412 rfl ?_
    refine a_i2l C dL_law_414 ?_
    refine a_lcmpE C dL_law_415 ?_
    refine a_if_eq (tgt := 421) C dL_law_416 rfl (by unfold ii_B; omega) (fun _ => ?_) (fun hz => absurd rfl hz)
    refine a_goto (tgt := 2612) C dL_law_421 rfl ?_
    refine a_pick [0, 1, 2, 3, 4, 5] (L2 := [(0, .ref bS), (1, .ref (ad2 0)), (2, .ref (ad2 40)), (3, .ref (ad2 90)), (4, .ref (ad2 91)), (5, ii_v ((i : Nat) : Int))]) rfl ?_
    exact K _ _ _ _ _ _ _ _ ⟨CL_k h4 m6, m5, hS2⟩ h6
set_option maxHeartbeats 1000000 in
theorem lc_request {p : Program} {l : Launch} {e : Env} {s : State} {m : MethodId} {args : Array Value} {below : List Frame} {meth : Method} {c : Code} {E : ab_E} {base : Nat} {Q : State → Prop} (C : ab_C p l s m args meth c E base 8 RL cL_law (some .boolean)) (hl : l.stackTraces = false) (hN : ab_NC s) {bS Lx : Nat} {xs : Nat → Int32} (hX : va_X bS Lx xs s s.heap) (hbl : bS < s.heap.size) (hbA : ¬ ab_A base bS) (hLx : Lx ≤ 3072) {ad : Nat → Nat} {f a : Nat → Nat → Int} {TS : Nat → List Nat} {nb nr : Nat} {tm : Int} {vL : Int64} {vD : UInt64} {k n i : Nat} (hI : IS f a TS nb nr tm) (hi : i + 6 ≤ Lx) (hk : k + 4 ≤ 601024) (hn : n + 150 ≤ 7293034) (K : lw_K p l e s m args below meth c E base Q bS tm k n i) : ab_W p l e (ab_rm 20 601024 7293034) s m args below meth c E base 8 Q ab_x4 ad (f, nb, nr, vL, vD) k n 424 [(0, .ref bS), (1, .ref (ad 0)), (2, .ref (ad 40)), (3, .ref (ad 90)), (4, .ref (ad 91)), (5, ii_v ((i : Nat) : Int))] [] := by
  obtain ⟨v1, e1⟩ : ∃ v : Int, v = (xs (i + 1)).toInt := ⟨_, rfl⟩
  have z1 : -2147483648 ≤ v1 ∧ v1 < 2147483648 := by rw [e1]; exact ii_Bof _
  obtain ⟨v2, e2⟩ : ∃ v : Int, v = (xs (i + 2)).toInt := ⟨_, rfl⟩
  have z2 : -2147483648 ≤ v2 ∧ v2 < 2147483648 := by rw [e2]; exact ii_Bof _
  obtain ⟨v3, e3⟩ : ∃ v : Int, v = (xs (i + 3)).toInt := ⟨_, rfl⟩
  have z3 : -2147483648 ≤ v3 ∧ v3 < 2147483648 := by rw [e3]; exact ii_Bof _
  obtain ⟨v4, e4⟩ : ∃ v : Int, v = (xs (i + 4)).toInt := ⟨_, rfl⟩
  have z4 : -2147483648 ≤ v4 ∧ v4 < 2147483648 := by rw [e4]; exact ii_Bof _
  obtain ⟨v5, e5⟩ : ∃ v : Int, v = (xs (i + 5)).toInt := ⟨_, rfl⟩
  have z5 : -2147483648 ≤ v5 ∧ v5 < 2147483648 := by rw [e5]; exact ii_Bof _
  obtain ⟨kk, u, v, a2, TS2, nb2, nr2, hS2, hkv, hkl, hZ, hMz⟩ := z_request (E := E) (base := base) (ad := ad) (ol := (vL, vD)) hl hI v1 v2 v3 v4 v5 z1 z2 z3 z4 z5
  have hkl : kk ≤ 3 := hkl
  refine a_aload_n C dL_law_424 rfl ?_
  refine a_aload_n C dL_law_425 rfl ?_
  refine a_iload C dL_law_426 rfl ?_
  refine a_iconst C dL_law_428 ?_
  refine a_iadd C dL_law_429 ?_
  refine a_siald (j := i + 1) C hX hbl hbA (by omega) (by omega) (by omega) dL_law_430 ?_
  rw [← e1]
  refine a_aload_n C dL_law_431 rfl ?_
  refine a_iload C dL_law_432 rfl ?_
  refine a_iconst C dL_law_434 ?_
  refine a_iadd C dL_law_435 ?_
  refine a_siald (j := i + 2) C hX hbl hbA (by omega) (by omega) (by omega) dL_law_436 ?_
  rw [← e2]
  refine a_aload_n C dL_law_437 rfl ?_
  refine a_iload C dL_law_438 rfl ?_
  refine a_iconst C dL_law_440 ?_
  refine a_iadd C dL_law_441 ?_
  refine a_siald (j := i + 3) C hX hbl hbA (by omega) (by omega) (by omega) dL_law_442 ?_
  rw [← e3]
  refine a_aload_n C dL_law_443 rfl ?_
  refine a_iload C dL_law_444 rfl ?_
  refine a_iconst C dL_law_446 ?_
  refine a_iadd C dL_law_447 ?_
  refine a_siald (j := i + 4) C hX hbl hbA (by omega) (by omega) (by omega) dL_law_448 ?_
  rw [← e4]
  refine a_aload_n C dL_law_449 rfl ?_
  refine a_iload C dL_law_450 rfl ?_
  refine a_iconst C dL_law_452 ?_
  refine a_iadd C dL_law_453 ?_
  refine a_siald (j := i + 5) C hX hbl hbA (by omega) (by omega) (by omega) dL_law_454 ?_
  rw [← e5]
  refine a_aload_n C dL_law_455 rfl ?_
  refine a_callSH (As := [.ref (ad 0), ii_v v1, ii_v v2, ii_v v3, ii_v v4, ii_v v5, .ref (ad 90)]) C hN (w_request hl hkl hZ) co_L_request in_L ml_L_158 sc_L_request ar_L_request ⟨by decide, by decide, by omega, by omega⟩ rfl (Nat.le_of_ble_eq_true rfl) dL_law_456 (fun ov x1 ad1 z1 hp => ?_) (fun X x1 ad1 z1 hp => by cases hp.2.2.1)
  obtain ⟨h1, h2, h3, h4, h5, h6⟩ := hp
  obtain ⟨g, w9⟩ := z1
  cases h3
  cases h2
  subst h1
  dsimp only at h4 h5
  rw [← h6 0 (by decide), ← h6 40 (by decide), ← h6 90 (by decide), ← h6 91 (by decide)]
  refine a_istore (L' := [(0, .ref bS), (1, .ref (ad1 0)), (2, .ref (ad1 40)), (3, .ref (ad1 90)), (4, .ref (ad1 91)), (5, ii_v ((i : Nat) : Int)), (6, ii_v ((kk : Nat) : Int))]) C dL_law_459 (by decide) rfl ?_
  refine a_aload_n C dL_law_461 rfl ?_
  refine a_aload_n C dL_law_462 rfl ?_
  refine a_iload C dL_law_463 rfl ?_
  refine a_iconst C dL_law_465 ?_
  refine a_iadd C dL_law_466 ?_
  refine a_siald (j := i + 1) C hX hbl hbA (by omega) (by omega) (by omega) dL_law_467 ?_
  rw [← e1]
  refine a_aload_n C dL_law_468 rfl ?_
  refine a_iload C dL_law_469 rfl ?_
  refine a_iconst C dL_law_471 ?_
  refine a_iadd C dL_law_472 ?_
  refine a_siald (j := i + 2) C hX hbl hbA (by omega) (by omega) (by omega) dL_law_473 ?_
  rw [← e2]
  refine a_aload_n C dL_law_474 rfl ?_
  refine a_iload C dL_law_475 rfl ?_
  refine a_iconst C dL_law_477 ?_
  refine a_iadd C dL_law_478 ?_
  refine a_siald (j := i + 3) C hX hbl hbA (by omega) (by omega) (by omega) dL_law_479 ?_
  rw [← e3]
  refine a_aload_n C dL_law_480 rfl ?_
  refine a_iload C dL_law_481 rfl ?_
  refine a_iconst C dL_law_483 ?_
  refine a_iadd C dL_law_484 ?_
  refine a_siald (j := i + 4) C hX hbl hbA (by omega) (by omega) (by omega) dL_law_485 ?_
  rw [← e4]
  refine a_aload_n C dL_law_486 rfl ?_
  refine a_iload C dL_law_487 rfl ?_
  refine a_iconst C dL_law_489 ?_
  refine a_iadd C dL_law_490 ?_
  refine a_siald (j := i + 5) C hX hbl hbA (by omega) (by omega) (by omega) dL_law_491 ?_
  rw [← e5]
  obtain ⟨d2, Post2, hd2, hM2, hP2⟩ := hMz ad1 g _ h4 (ML_k hI.2.1 h5)
  refine a_callV (o := 40) (As := [ii_v v1, ii_v v2, ii_v v3, ii_v v4, ii_v v5]) C hM2 co_X10_request in_X10 ml_L_161 im_X10_request se_X10_request rfl rfl ar_X10_request ⟨by omega, by decide, by omega, by omega⟩ rfl (Nat.le_of_ble_eq_true rfl) dL_law_492 (fun ov x1 ad2 z1 hp => ?_) (fun X x1 ad2 z1 hp => by cases (hP2 _ _ _ _ hp).2.2.2.1)
  obtain ⟨m1, m2, m3, m4, m5, m6, m7⟩ := hP2 _ _ _ _ hp
  obtain ⟨h, w9⟩ := z1
  cases m4
  cases m3
  subst m1 m2
  dsimp only at m5 m6 m7
  refine a_istore (L' := [(0, .ref bS), (1, .ref (ad2 0)), (2, .ref (ad2 40)), (3, .ref (ad2 90)), (4, .ref (ad2 91)), (5, ii_v ((i : Nat) : Int)), (6, ii_v ((kk : Nat) : Int)), (7, ii_v v)]) C dL_law_495 (by decide) rfl ?_
  refine a_aload_n C dL_law_497 rfl ?_
  refine a_callV (o := 40) (As := []) C (m_thrown hl h _) co_X10_thrown in_X10 ml_L_148 im_X10_thrown se_X10_thrown rfl rfl ar_X10_thrown ⟨by decide, by decide, by omega, by omega⟩ rfl (Nat.le_of_ble_eq_true rfl) dL_law_498 (a_dR ?_) a_nR
  rw [m7]
  refine a_iload C dL_law_501 rfl ?_
  refine a_icmp_eq (tgt := 508) C dL_law_503 rfl (by unfold ii_B; omega) (by unfold ii_B; omega) (fun _ => ?_) (fun hz => absurd rfl hz)
  refine a_iload C dL_law_508 rfl ?_
  refine a_if_ne (tgt := 525) C dL_law_510 rfl (by unfold ii_B; omega) (fun hz => ?_) (fun hz => ?_)
  · skip
    refine a_goto (tgt := 2612) C dL_law_525 rfl ?_
    refine a_pick [0, 1, 2, 3, 4, 5] (L2 := [(0, .ref bS), (1, .ref (ad2 0)), (2, .ref (ad2 40)), (3, .ref (ad2 90)), (4, .ref (ad2 91)), (5, ii_v ((i : Nat) : Int))]) rfl ?_
    exact K _ _ _ _ _ _ _ _ ⟨CL_k h4 m6, m5, hS2⟩ h6
  · have hk0 : kk = 0 := by omega
    subst hk0
    rw [if_pos rfl, ← hkv rfl]
    refine a_aload_n C dL_law_513 rfl ?_
    refine a_iconst C dL_law_514 ?_
    refine a_lald C dL_law_515 ?_
    refine a_iload C dL_law_516 rfl ?_
    refine a_i2l C dL_law_518 ?_
    refine a_lcmpE C dL_law_519 ?_
    refine a_if_eq (tgt := 525) C dL_law_520 rfl (by unfold ii_B; omega) (fun _ => ?_) (fun hz => absurd rfl hz)
    refine a_goto (tgt := 2612) C dL_law_525 rfl ?_
    refine a_pick [0, 1, 2, 3, 4, 5] (L2 := [(0, .ref bS), (1, .ref (ad2 0)), (2, .ref (ad2 40)), (3, .ref (ad2 90)), (4, .ref (ad2 91)), (5, ii_v ((i : Nat) : Int))]) rfl ?_
    exact K _ _ _ _ _ _ _ _ ⟨CL_k h4 m6, m5, hS2⟩ h6
set_option maxHeartbeats 1000000 in
theorem lc_quote {p : Program} {l : Launch} {e : Env} {s : State} {m : MethodId} {args : Array Value} {below : List Frame} {meth : Method} {c : Code} {E : ab_E} {base : Nat} {Q : State → Prop} (C : ab_C p l s m args meth c E base 8 RL cL_law (some .boolean)) (hl : l.stackTraces = false) (hN : ab_NC s) {bS Lx : Nat} {xs : Nat → Int32} (hX : va_X bS Lx xs s s.heap) (hbl : bS < s.heap.size) (hbA : ¬ ab_A base bS) (hLx : Lx ≤ 3072) {ad : Nat → Nat} {f a : Nat → Nat → Int} {TS : Nat → List Nat} {nb nr : Nat} {tm : Int} {vL : Int64} {vD : UInt64} {k n i : Nat} (hI : IS f a TS nb nr tm) (hi : i + 6 ≤ Lx) (hk : k + 4 ≤ 601024) (hn : n + 150 ≤ 7293034) (K : lw_K p l e s m args below meth c E base Q bS tm k n i) : ab_W p l e (ab_rm 20 601024 7293034) s m args below meth c E base 8 Q ab_x4 ad (f, nb, nr, vL, vD) k n 528 [(0, .ref bS), (1, .ref (ad 0)), (2, .ref (ad 40)), (3, .ref (ad 90)), (4, .ref (ad 91)), (5, ii_v ((i : Nat) : Int))] [] := by
  obtain ⟨v1, e1⟩ : ∃ v : Int, v = (xs (i + 1)).toInt := ⟨_, rfl⟩
  have z1 : -2147483648 ≤ v1 ∧ v1 < 2147483648 := by rw [e1]; exact ii_Bof _
  obtain ⟨v2, e2⟩ : ∃ v : Int, v = (xs (i + 2)).toInt := ⟨_, rfl⟩
  have z2 : -2147483648 ≤ v2 ∧ v2 < 2147483648 := by rw [e2]; exact ii_Bof _
  obtain ⟨v3, e3⟩ : ∃ v : Int, v = (xs (i + 3)).toInt := ⟨_, rfl⟩
  have z3 : -2147483648 ≤ v3 ∧ v3 < 2147483648 := by rw [e3]; exact ii_Bof _
  obtain ⟨v4, e4⟩ : ∃ v : Int, v = (xs (i + 4)).toInt := ⟨_, rfl⟩
  have z4 : -2147483648 ≤ v4 ∧ v4 < 2147483648 := by rw [e4]; exact ii_Bof _
  obtain ⟨v5, e5⟩ : ∃ v : Int, v = (xs (i + 5)).toInt := ⟨_, rfl⟩
  have z5 : -2147483648 ≤ v5 ∧ v5 < 2147483648 := by rw [e5]; exact ii_Bof _
  obtain ⟨kk, u, v, a2, TS2, nb2, nr2, hS2, hkv, hkl, hZ, hMz⟩ := z_quote (E := E) (base := base) (ad := ad) (ol := (vL, vD)) hl hI v1 v2 v3 v4 v5 z1 z2 z3 z4 z5
  have hkl : kk ≤ 3 := hkl
  refine a_aload_n C dL_law_528 rfl ?_
  refine a_aload_n C dL_law_529 rfl ?_
  refine a_iload C dL_law_530 rfl ?_
  refine a_iconst C dL_law_532 ?_
  refine a_iadd C dL_law_533 ?_
  refine a_siald (j := i + 1) C hX hbl hbA (by omega) (by omega) (by omega) dL_law_534 ?_
  rw [← e1]
  refine a_aload_n C dL_law_535 rfl ?_
  refine a_iload C dL_law_536 rfl ?_
  refine a_iconst C dL_law_538 ?_
  refine a_iadd C dL_law_539 ?_
  refine a_siald (j := i + 2) C hX hbl hbA (by omega) (by omega) (by omega) dL_law_540 ?_
  rw [← e2]
  refine a_aload_n C dL_law_541 rfl ?_
  refine a_iload C dL_law_542 rfl ?_
  refine a_iconst C dL_law_544 ?_
  refine a_iadd C dL_law_545 ?_
  refine a_siald (j := i + 3) C hX hbl hbA (by omega) (by omega) (by omega) dL_law_546 ?_
  rw [← e3]
  refine a_aload_n C dL_law_547 rfl ?_
  refine a_iload C dL_law_548 rfl ?_
  refine a_iconst C dL_law_550 ?_
  refine a_iadd C dL_law_551 ?_
  refine a_siald (j := i + 4) C hX hbl hbA (by omega) (by omega) (by omega) dL_law_552 ?_
  rw [← e4]
  refine a_aload_n C dL_law_553 rfl ?_
  refine a_iload C dL_law_554 rfl ?_
  refine a_iconst C dL_law_556 ?_
  refine a_iadd C dL_law_557 ?_
  refine a_siald (j := i + 5) C hX hbl hbA (by omega) (by omega) (by omega) dL_law_558 ?_
  rw [← e5]
  refine a_aload_n C dL_law_559 rfl ?_
  refine a_callSH (As := [.ref (ad 0), ii_v v1, ii_v v2, ii_v v3, ii_v v4, ii_v v5, .ref (ad 90)]) C hN (w_quote hl hkl hZ) co_L_quote in_L ml_L_162 sc_L_quote ar_L_quote ⟨by decide, by decide, by omega, by omega⟩ rfl (Nat.le_of_ble_eq_true rfl) dL_law_560 (fun ov x1 ad1 z1 hp => ?_) (fun X x1 ad1 z1 hp => by cases hp.2.2.1)
  obtain ⟨h1, h2, h3, h4, h5, h6⟩ := hp
  obtain ⟨g, w9⟩ := z1
  cases h3
  cases h2
  subst h1
  dsimp only at h4 h5
  rw [← h6 0 (by decide), ← h6 40 (by decide), ← h6 90 (by decide), ← h6 91 (by decide)]
  refine a_istore (L' := [(0, .ref bS), (1, .ref (ad1 0)), (2, .ref (ad1 40)), (3, .ref (ad1 90)), (4, .ref (ad1 91)), (5, ii_v ((i : Nat) : Int)), (6, ii_v ((kk : Nat) : Int))]) C dL_law_563 (by decide) rfl ?_
  refine a_aload_n C dL_law_565 rfl ?_
  refine a_aload_n C dL_law_566 rfl ?_
  refine a_iload C dL_law_567 rfl ?_
  refine a_iconst C dL_law_569 ?_
  refine a_iadd C dL_law_570 ?_
  refine a_siald (j := i + 1) C hX hbl hbA (by omega) (by omega) (by omega) dL_law_571 ?_
  rw [← e1]
  refine a_aload_n C dL_law_572 rfl ?_
  refine a_iload C dL_law_573 rfl ?_
  refine a_iconst C dL_law_575 ?_
  refine a_iadd C dL_law_576 ?_
  refine a_siald (j := i + 2) C hX hbl hbA (by omega) (by omega) (by omega) dL_law_577 ?_
  rw [← e2]
  refine a_aload_n C dL_law_578 rfl ?_
  refine a_iload C dL_law_579 rfl ?_
  refine a_iconst C dL_law_581 ?_
  refine a_iadd C dL_law_582 ?_
  refine a_siald (j := i + 3) C hX hbl hbA (by omega) (by omega) (by omega) dL_law_583 ?_
  rw [← e3]
  refine a_aload_n C dL_law_584 rfl ?_
  refine a_iload C dL_law_585 rfl ?_
  refine a_iconst C dL_law_587 ?_
  refine a_iadd C dL_law_588 ?_
  refine a_siald (j := i + 4) C hX hbl hbA (by omega) (by omega) (by omega) dL_law_589 ?_
  rw [← e4]
  refine a_aload_n C dL_law_590 rfl ?_
  refine a_iload C dL_law_591 rfl ?_
  refine a_iconst C dL_law_593 ?_
  refine a_iadd C dL_law_594 ?_
  refine a_siald (j := i + 5) C hX hbl hbA (by omega) (by omega) (by omega) dL_law_595 ?_
  rw [← e5]
  obtain ⟨d2, Post2, hd2, hM2, hP2⟩ := hMz ad1 g _ h4 (ML_k hI.2.1 h5)
  refine a_callV (o := 40) (As := [ii_v v1, ii_v v2, ii_v v3, ii_v v4, ii_v v5]) C hM2 co_X10_quote in_X10 ml_L_164 im_X10_quote se_X10_quote rfl rfl ar_X10_quote ⟨by omega, by decide, by omega, by omega⟩ rfl (Nat.le_of_ble_eq_true rfl) dL_law_596 (fun ov x1 ad2 z1 hp => ?_) (fun X x1 ad2 z1 hp => by cases (hP2 _ _ _ _ hp).2.2.2.1)
  obtain ⟨m1, m2, m3, m4, m5, m6, m7⟩ := hP2 _ _ _ _ hp
  obtain ⟨h, w9⟩ := z1
  cases m4
  cases m3
  subst m1 m2
  dsimp only at m5 m6 m7
  refine a_istore (L' := [(0, .ref bS), (1, .ref (ad2 0)), (2, .ref (ad2 40)), (3, .ref (ad2 90)), (4, .ref (ad2 91)), (5, ii_v ((i : Nat) : Int)), (6, ii_v ((kk : Nat) : Int)), (7, ii_v v)]) C dL_law_599 (by decide) rfl ?_
  refine a_aload_n C dL_law_601 rfl ?_
  refine a_callV (o := 40) (As := []) C (m_thrown hl h _) co_X10_thrown in_X10 ml_L_148 im_X10_thrown se_X10_thrown rfl rfl ar_X10_thrown ⟨by decide, by decide, by omega, by omega⟩ rfl (Nat.le_of_ble_eq_true rfl) dL_law_602 (a_dR ?_) a_nR
  rw [m7]
  refine a_iload C dL_law_605 rfl ?_
  refine a_icmp_eq (tgt := 612) C dL_law_607 rfl (by unfold ii_B; omega) (by unfold ii_B; omega) (fun _ => ?_) (fun hz => absurd rfl hz)
  refine a_iload C dL_law_612 rfl ?_
  refine a_if_ne (tgt := 629) C dL_law_614 rfl (by unfold ii_B; omega) (fun hz => ?_) (fun hz => ?_)
  · skip
    refine a_goto (tgt := 2612) C dL_law_629 rfl ?_
    refine a_pick [0, 1, 2, 3, 4, 5] (L2 := [(0, .ref bS), (1, .ref (ad2 0)), (2, .ref (ad2 40)), (3, .ref (ad2 90)), (4, .ref (ad2 91)), (5, ii_v ((i : Nat) : Int))]) rfl ?_
    exact K _ _ _ _ _ _ _ _ ⟨CL_k h4 m6, m5, hS2⟩ h6
  · have hk0 : kk = 0 := by omega
    subst hk0
    rw [if_pos rfl, ← hkv rfl]
    refine a_aload_n C dL_law_617 rfl ?_
    refine a_iconst C dL_law_618 ?_
    refine a_lald C dL_law_619 ?_
    refine a_iload C dL_law_620 rfl ?_
    refine a_i2l C dL_law_622 ?_
    refine a_lcmpE C dL_law_623 ?_
    refine a_if_eq (tgt := 629) C dL_law_624 rfl (by unfold ii_B; omega) (fun _ => ?_) (fun hz => absurd rfl hz)
    refine a_goto (tgt := 2612) C dL_law_629 rfl ?_
    refine a_pick [0, 1, 2, 3, 4, 5] (L2 := [(0, .ref bS), (1, .ref (ad2 0)), (2, .ref (ad2 40)), (3, .ref (ad2 90)), (4, .ref (ad2 91)), (5, ii_v ((i : Nat) : Int))]) rfl ?_
    exact K _ _ _ _ _ _ _ _ ⟨CL_k h4 m6, m5, hS2⟩ h6
set_option maxHeartbeats 1000000 in
theorem lc_quoteByTrying {p : Program} {l : Launch} {e : Env} {s : State} {m : MethodId} {args : Array Value} {below : List Frame} {meth : Method} {c : Code} {E : ab_E} {base : Nat} {Q : State → Prop} (C : ab_C p l s m args meth c E base 8 RL cL_law (some .boolean)) (hl : l.stackTraces = false) (hN : ab_NC s) {bS Lx : Nat} {xs : Nat → Int32} (hX : va_X bS Lx xs s s.heap) (hbl : bS < s.heap.size) (hbA : ¬ ab_A base bS) (hLx : Lx ≤ 3072) {ad : Nat → Nat} {f a : Nat → Nat → Int} {TS : Nat → List Nat} {nb nr : Nat} {tm : Int} {vL : Int64} {vD : UInt64} {k n i : Nat} (hI : IS f a TS nb nr tm) (hi : i + 6 ≤ Lx) (hk : k + 4 ≤ 601024) (hn : n + 150 ≤ 7293034) (K : lw_K p l e s m args below meth c E base Q bS tm k n i) : ab_W p l e (ab_rm 20 601024 7293034) s m args below meth c E base 8 Q ab_x4 ad (f, nb, nr, vL, vD) k n 632 [(0, .ref bS), (1, .ref (ad 0)), (2, .ref (ad 40)), (3, .ref (ad 90)), (4, .ref (ad 91)), (5, ii_v ((i : Nat) : Int))] [] := by
  obtain ⟨v1, e1⟩ : ∃ v : Int, v = (xs (i + 1)).toInt := ⟨_, rfl⟩
  have z1 : -2147483648 ≤ v1 ∧ v1 < 2147483648 := by rw [e1]; exact ii_Bof _
  obtain ⟨v2, e2⟩ : ∃ v : Int, v = (xs (i + 2)).toInt := ⟨_, rfl⟩
  have z2 : -2147483648 ≤ v2 ∧ v2 < 2147483648 := by rw [e2]; exact ii_Bof _
  obtain ⟨v3, e3⟩ : ∃ v : Int, v = (xs (i + 3)).toInt := ⟨_, rfl⟩
  have z3 : -2147483648 ≤ v3 ∧ v3 < 2147483648 := by rw [e3]; exact ii_Bof _
  obtain ⟨v4, e4⟩ : ∃ v : Int, v = (xs (i + 4)).toInt := ⟨_, rfl⟩
  have z4 : -2147483648 ≤ v4 ∧ v4 < 2147483648 := by rw [e4]; exact ii_Bof _
  obtain ⟨v5, e5⟩ : ∃ v : Int, v = (xs (i + 5)).toInt := ⟨_, rfl⟩
  have z5 : -2147483648 ≤ v5 ∧ v5 < 2147483648 := by rw [e5]; exact ii_Bof _
  obtain ⟨kk, u, v, a2, TS2, nb2, nr2, hS2, hkv, hkl, hZ, hMz⟩ := z_quoteByTrying (E := E) (base := base) (ad := ad) (ol := (vL, vD)) hl hI v1 v2 v3 v4 v5 z1 z2 z3 z4 z5
  have hkl : kk ≤ 3 := hkl
  refine a_aload_n C dL_law_632 rfl ?_
  refine a_aload_n C dL_law_633 rfl ?_
  refine a_iload C dL_law_634 rfl ?_
  refine a_iconst C dL_law_636 ?_
  refine a_iadd C dL_law_637 ?_
  refine a_siald (j := i + 1) C hX hbl hbA (by omega) (by omega) (by omega) dL_law_638 ?_
  rw [← e1]
  refine a_aload_n C dL_law_639 rfl ?_
  refine a_iload C dL_law_640 rfl ?_
  refine a_iconst C dL_law_642 ?_
  refine a_iadd C dL_law_643 ?_
  refine a_siald (j := i + 2) C hX hbl hbA (by omega) (by omega) (by omega) dL_law_644 ?_
  rw [← e2]
  refine a_aload_n C dL_law_645 rfl ?_
  refine a_iload C dL_law_646 rfl ?_
  refine a_iconst C dL_law_648 ?_
  refine a_iadd C dL_law_649 ?_
  refine a_siald (j := i + 3) C hX hbl hbA (by omega) (by omega) (by omega) dL_law_650 ?_
  rw [← e3]
  refine a_aload_n C dL_law_651 rfl ?_
  refine a_iload C dL_law_652 rfl ?_
  refine a_iconst C dL_law_654 ?_
  refine a_iadd C dL_law_655 ?_
  refine a_siald (j := i + 4) C hX hbl hbA (by omega) (by omega) (by omega) dL_law_656 ?_
  rw [← e4]
  refine a_aload_n C dL_law_657 rfl ?_
  refine a_iload C dL_law_658 rfl ?_
  refine a_iconst C dL_law_660 ?_
  refine a_iadd C dL_law_661 ?_
  refine a_siald (j := i + 5) C hX hbl hbA (by omega) (by omega) (by omega) dL_law_662 ?_
  rw [← e5]
  refine a_aload_n C dL_law_663 rfl ?_
  refine a_callSH (As := [.ref (ad 0), ii_v v1, ii_v v2, ii_v v3, ii_v v4, ii_v v5, .ref (ad 90)]) C hN (w_quoteByTrying hl hkl hZ) co_L_quoteByTrying in_L ml_L_165 sc_L_quoteByTrying ar_L_quoteByTrying ⟨by decide, by decide, by omega, by omega⟩ rfl (Nat.le_of_ble_eq_true rfl) dL_law_664 (fun ov x1 ad1 z1 hp => ?_) (fun X x1 ad1 z1 hp => by cases hp.2.2.1)
  obtain ⟨h1, h2, h3, h4, h5, h6⟩ := hp
  obtain ⟨g, w9⟩ := z1
  cases h3
  cases h2
  subst h1
  dsimp only at h4 h5
  rw [← h6 0 (by decide), ← h6 40 (by decide), ← h6 90 (by decide), ← h6 91 (by decide)]
  refine a_istore (L' := [(0, .ref bS), (1, .ref (ad1 0)), (2, .ref (ad1 40)), (3, .ref (ad1 90)), (4, .ref (ad1 91)), (5, ii_v ((i : Nat) : Int)), (6, ii_v ((kk : Nat) : Int))]) C dL_law_667 (by decide) rfl ?_
  refine a_aload_n C dL_law_669 rfl ?_
  refine a_aload_n C dL_law_670 rfl ?_
  refine a_iload C dL_law_671 rfl ?_
  refine a_iconst C dL_law_673 ?_
  refine a_iadd C dL_law_674 ?_
  refine a_siald (j := i + 1) C hX hbl hbA (by omega) (by omega) (by omega) dL_law_675 ?_
  rw [← e1]
  refine a_aload_n C dL_law_676 rfl ?_
  refine a_iload C dL_law_677 rfl ?_
  refine a_iconst C dL_law_679 ?_
  refine a_iadd C dL_law_680 ?_
  refine a_siald (j := i + 2) C hX hbl hbA (by omega) (by omega) (by omega) dL_law_681 ?_
  rw [← e2]
  refine a_aload_n C dL_law_682 rfl ?_
  refine a_iload C dL_law_683 rfl ?_
  refine a_iconst C dL_law_685 ?_
  refine a_iadd C dL_law_686 ?_
  refine a_siald (j := i + 3) C hX hbl hbA (by omega) (by omega) (by omega) dL_law_687 ?_
  rw [← e3]
  refine a_aload_n C dL_law_688 rfl ?_
  refine a_iload C dL_law_689 rfl ?_
  refine a_iconst C dL_law_691 ?_
  refine a_iadd C dL_law_692 ?_
  refine a_siald (j := i + 4) C hX hbl hbA (by omega) (by omega) (by omega) dL_law_693 ?_
  rw [← e4]
  refine a_aload_n C dL_law_694 rfl ?_
  refine a_iload C dL_law_695 rfl ?_
  refine a_iconst C dL_law_697 ?_
  refine a_iadd C dL_law_698 ?_
  refine a_siald (j := i + 5) C hX hbl hbA (by omega) (by omega) (by omega) dL_law_699 ?_
  rw [← e5]
  obtain ⟨d2, Post2, hd2, hM2, hP2⟩ := hMz ad1 g _ h4 (ML_k hI.2.1 h5)
  refine a_callV (o := 40) (As := [ii_v v1, ii_v v2, ii_v v3, ii_v v4, ii_v v5]) C hM2 co_X10_quoteByTrying in_X10 ml_L_167 im_X10_quoteByTrying se_X10_quoteByTrying rfl rfl ar_X10_quoteByTrying ⟨by omega, by decide, by omega, by omega⟩ rfl (Nat.le_of_ble_eq_true rfl) dL_law_700 (fun ov x1 ad2 z1 hp => ?_) (fun X x1 ad2 z1 hp => by cases (hP2 _ _ _ _ hp).2.2.2.1)
  obtain ⟨m1, m2, m3, m4, m5, m6, m7⟩ := hP2 _ _ _ _ hp
  obtain ⟨h, w9⟩ := z1
  cases m4
  cases m3
  subst m1 m2
  dsimp only at m5 m6 m7
  refine a_istore (L' := [(0, .ref bS), (1, .ref (ad2 0)), (2, .ref (ad2 40)), (3, .ref (ad2 90)), (4, .ref (ad2 91)), (5, ii_v ((i : Nat) : Int)), (6, ii_v ((kk : Nat) : Int)), (7, ii_v v)]) C dL_law_703 (by decide) rfl ?_
  refine a_aload_n C dL_law_705 rfl ?_
  refine a_callV (o := 40) (As := []) C (m_thrown hl h _) co_X10_thrown in_X10 ml_L_148 im_X10_thrown se_X10_thrown rfl rfl ar_X10_thrown ⟨by decide, by decide, by omega, by omega⟩ rfl (Nat.le_of_ble_eq_true rfl) dL_law_706 (a_dR ?_) a_nR
  rw [m7]
  refine a_iload C dL_law_709 rfl ?_
  refine a_icmp_eq (tgt := 716) C dL_law_711 rfl (by unfold ii_B; omega) (by unfold ii_B; omega) (fun _ => ?_) (fun hz => absurd rfl hz)
  refine a_iload C dL_law_716 rfl ?_
  refine a_if_ne (tgt := 733) C dL_law_718 rfl (by unfold ii_B; omega) (fun hz => ?_) (fun hz => ?_)
  · skip
    refine a_goto (tgt := 2612) C dL_law_733 rfl ?_
    refine a_pick [0, 1, 2, 3, 4, 5] (L2 := [(0, .ref bS), (1, .ref (ad2 0)), (2, .ref (ad2 40)), (3, .ref (ad2 90)), (4, .ref (ad2 91)), (5, ii_v ((i : Nat) : Int))]) rfl ?_
    exact K _ _ _ _ _ _ _ _ ⟨CL_k h4 m6, m5, hS2⟩ h6
  · have hk0 : kk = 0 := by omega
    subst hk0
    rw [if_pos rfl, ← hkv rfl]
    refine a_aload_n C dL_law_721 rfl ?_
    refine a_iconst C dL_law_722 ?_
    refine a_lald C dL_law_723 ?_
    refine a_iload C dL_law_724 rfl ?_
    refine a_i2l C dL_law_726 ?_
    refine a_lcmpE C dL_law_727 ?_
    refine a_if_eq (tgt := 733) C dL_law_728 rfl (by unfold ii_B; omega) (fun _ => ?_) (fun hz => absurd rfl hz)
    refine a_goto (tgt := 2612) C dL_law_733 rfl ?_
    refine a_pick [0, 1, 2, 3, 4, 5] (L2 := [(0, .ref bS), (1, .ref (ad2 0)), (2, .ref (ad2 40)), (3, .ref (ad2 90)), (4, .ref (ad2 91)), (5, ii_v ((i : Nat) : Int))]) rfl ?_
    exact K _ _ _ _ _ _ _ _ ⟨CL_k h4 m6, m5, hS2⟩ h6
set_option maxHeartbeats 1000000 in
theorem lc_quotedBus {p : Program} {l : Launch} {e : Env} {s : State} {m : MethodId} {args : Array Value} {below : List Frame} {meth : Method} {c : Code} {E : ab_E} {base : Nat} {Q : State → Prop} (C : ab_C p l s m args meth c E base 8 RL cL_law (some .boolean)) (hl : l.stackTraces = false) (hN : ab_NC s) {bS Lx : Nat} {xs : Nat → Int32} (hX : va_X bS Lx xs s s.heap) (hbl : bS < s.heap.size) (hbA : ¬ ab_A base bS) (hLx : Lx ≤ 3072) {ad : Nat → Nat} {f a : Nat → Nat → Int} {TS : Nat → List Nat} {nb nr : Nat} {tm : Int} {vL : Int64} {vD : UInt64} {k n i : Nat} (hI : IS f a TS nb nr tm) (hi : i + 6 ≤ Lx) (hk : k + 4 ≤ 601024) (hn : n + 150 ≤ 7293034) (K : lw_K p l e s m args below meth c E base Q bS tm k n i) : ab_W p l e (ab_rm 20 601024 7293034) s m args below meth c E base 8 Q ab_x4 ad (f, nb, nr, vL, vD) k n 736 [(0, .ref bS), (1, .ref (ad 0)), (2, .ref (ad 40)), (3, .ref (ad 90)), (4, .ref (ad 91)), (5, ii_v ((i : Nat) : Int))] [] := by
  obtain ⟨v1, e1⟩ : ∃ v : Int, v = (xs (i + 1)).toInt := ⟨_, rfl⟩
  have z1 : -2147483648 ≤ v1 ∧ v1 < 2147483648 := by rw [e1]; exact ii_Bof _
  obtain ⟨v2, e2⟩ : ∃ v : Int, v = (xs (i + 2)).toInt := ⟨_, rfl⟩
  have z2 : -2147483648 ≤ v2 ∧ v2 < 2147483648 := by rw [e2]; exact ii_Bof _
  obtain ⟨v3, e3⟩ : ∃ v : Int, v = (xs (i + 3)).toInt := ⟨_, rfl⟩
  have z3 : -2147483648 ≤ v3 ∧ v3 < 2147483648 := by rw [e3]; exact ii_Bof _
  obtain ⟨v4, e4⟩ : ∃ v : Int, v = (xs (i + 4)).toInt := ⟨_, rfl⟩
  have z4 : -2147483648 ≤ v4 ∧ v4 < 2147483648 := by rw [e4]; exact ii_Bof _
  obtain ⟨v5, e5⟩ : ∃ v : Int, v = (xs (i + 5)).toInt := ⟨_, rfl⟩
  have z5 : -2147483648 ≤ v5 ∧ v5 < 2147483648 := by rw [e5]; exact ii_Bof _
  obtain ⟨kk, u, v, a2, TS2, nb2, nr2, hS2, hkv, hkl, hZ, hMz⟩ := z_quotedBus (E := E) (base := base) (ad := ad) (ol := (vL, vD)) hl hI v1 v2 v3 v4 v5 z1 z2 z3 z4 z5
  have hkl : kk ≤ 3 := hkl
  refine a_aload_n C dL_law_736 rfl ?_
  refine a_aload_n C dL_law_737 rfl ?_
  refine a_iload C dL_law_738 rfl ?_
  refine a_iconst C dL_law_740 ?_
  refine a_iadd C dL_law_741 ?_
  refine a_siald (j := i + 1) C hX hbl hbA (by omega) (by omega) (by omega) dL_law_742 ?_
  rw [← e1]
  refine a_aload_n C dL_law_743 rfl ?_
  refine a_iload C dL_law_744 rfl ?_
  refine a_iconst C dL_law_746 ?_
  refine a_iadd C dL_law_747 ?_
  refine a_siald (j := i + 2) C hX hbl hbA (by omega) (by omega) (by omega) dL_law_748 ?_
  rw [← e2]
  refine a_aload_n C dL_law_749 rfl ?_
  refine a_iload C dL_law_750 rfl ?_
  refine a_iconst C dL_law_752 ?_
  refine a_iadd C dL_law_753 ?_
  refine a_siald (j := i + 3) C hX hbl hbA (by omega) (by omega) (by omega) dL_law_754 ?_
  rw [← e3]
  refine a_aload_n C dL_law_755 rfl ?_
  refine a_iload C dL_law_756 rfl ?_
  refine a_iconst C dL_law_758 ?_
  refine a_iadd C dL_law_759 ?_
  refine a_siald (j := i + 4) C hX hbl hbA (by omega) (by omega) (by omega) dL_law_760 ?_
  rw [← e4]
  refine a_aload_n C dL_law_761 rfl ?_
  refine a_iload C dL_law_762 rfl ?_
  refine a_iconst C dL_law_764 ?_
  refine a_iadd C dL_law_765 ?_
  refine a_siald (j := i + 5) C hX hbl hbA (by omega) (by omega) (by omega) dL_law_766 ?_
  rw [← e5]
  refine a_aload_n C dL_law_767 rfl ?_
  refine a_callSH (As := [.ref (ad 0), ii_v v1, ii_v v2, ii_v v3, ii_v v4, ii_v v5, .ref (ad 90)]) C hN (w_quotedBus hl hkl hZ) co_L_quotedBus in_L ml_L_168 sc_L_quotedBus ar_L_quotedBus ⟨by decide, by decide, by omega, by omega⟩ rfl (Nat.le_of_ble_eq_true rfl) dL_law_768 (fun ov x1 ad1 z1 hp => ?_) (fun X x1 ad1 z1 hp => by cases hp.2.2.1)
  obtain ⟨h1, h2, h3, h4, h5, h6⟩ := hp
  obtain ⟨g, w9⟩ := z1
  cases h3
  cases h2
  subst h1
  dsimp only at h4 h5
  rw [← h6 0 (by decide), ← h6 40 (by decide), ← h6 90 (by decide), ← h6 91 (by decide)]
  refine a_istore (L' := [(0, .ref bS), (1, .ref (ad1 0)), (2, .ref (ad1 40)), (3, .ref (ad1 90)), (4, .ref (ad1 91)), (5, ii_v ((i : Nat) : Int)), (6, ii_v ((kk : Nat) : Int))]) C dL_law_771 (by decide) rfl ?_
  refine a_aload_n C dL_law_773 rfl ?_
  refine a_aload_n C dL_law_774 rfl ?_
  refine a_iload C dL_law_775 rfl ?_
  refine a_iconst C dL_law_777 ?_
  refine a_iadd C dL_law_778 ?_
  refine a_siald (j := i + 1) C hX hbl hbA (by omega) (by omega) (by omega) dL_law_779 ?_
  rw [← e1]
  refine a_aload_n C dL_law_780 rfl ?_
  refine a_iload C dL_law_781 rfl ?_
  refine a_iconst C dL_law_783 ?_
  refine a_iadd C dL_law_784 ?_
  refine a_siald (j := i + 2) C hX hbl hbA (by omega) (by omega) (by omega) dL_law_785 ?_
  rw [← e2]
  refine a_aload_n C dL_law_786 rfl ?_
  refine a_iload C dL_law_787 rfl ?_
  refine a_iconst C dL_law_789 ?_
  refine a_iadd C dL_law_790 ?_
  refine a_siald (j := i + 3) C hX hbl hbA (by omega) (by omega) (by omega) dL_law_791 ?_
  rw [← e3]
  refine a_aload_n C dL_law_792 rfl ?_
  refine a_iload C dL_law_793 rfl ?_
  refine a_iconst C dL_law_795 ?_
  refine a_iadd C dL_law_796 ?_
  refine a_siald (j := i + 4) C hX hbl hbA (by omega) (by omega) (by omega) dL_law_797 ?_
  rw [← e4]
  refine a_aload_n C dL_law_798 rfl ?_
  refine a_iload C dL_law_799 rfl ?_
  refine a_iconst C dL_law_801 ?_
  refine a_iadd C dL_law_802 ?_
  refine a_siald (j := i + 5) C hX hbl hbA (by omega) (by omega) (by omega) dL_law_803 ?_
  rw [← e5]
  obtain ⟨d2, Post2, hd2, hM2, hP2⟩ := hMz ad1 g _ h4 (ML_k hI.2.1 h5)
  refine a_callV (o := 40) (As := [ii_v v1, ii_v v2, ii_v v3, ii_v v4, ii_v v5]) C hM2 co_X10_quotedBus in_X10 ml_L_170 im_X10_quotedBus se_X10_quotedBus rfl rfl ar_X10_quotedBus ⟨by omega, by decide, by omega, by omega⟩ rfl (Nat.le_of_ble_eq_true rfl) dL_law_804 (fun ov x1 ad2 z1 hp => ?_) (fun X x1 ad2 z1 hp => by cases (hP2 _ _ _ _ hp).2.2.2.1)
  obtain ⟨m1, m2, m3, m4, m5, m6, m7⟩ := hP2 _ _ _ _ hp
  obtain ⟨h, w9⟩ := z1
  cases m4
  cases m3
  subst m1 m2
  dsimp only at m5 m6 m7
  refine a_istore (L' := [(0, .ref bS), (1, .ref (ad2 0)), (2, .ref (ad2 40)), (3, .ref (ad2 90)), (4, .ref (ad2 91)), (5, ii_v ((i : Nat) : Int)), (6, ii_v ((kk : Nat) : Int)), (7, ii_v v)]) C dL_law_807 (by decide) rfl ?_
  refine a_aload_n C dL_law_809 rfl ?_
  refine a_callV (o := 40) (As := []) C (m_thrown hl h _) co_X10_thrown in_X10 ml_L_148 im_X10_thrown se_X10_thrown rfl rfl ar_X10_thrown ⟨by decide, by decide, by omega, by omega⟩ rfl (Nat.le_of_ble_eq_true rfl) dL_law_810 (a_dR ?_) a_nR
  rw [m7]
  refine a_iload C dL_law_813 rfl ?_
  refine a_icmp_eq (tgt := 820) C dL_law_815 rfl (by unfold ii_B; omega) (by unfold ii_B; omega) (fun _ => ?_) (fun hz => absurd rfl hz)
  refine a_iload C dL_law_820 rfl ?_
  refine a_if_ne (tgt := 837) C dL_law_822 rfl (by unfold ii_B; omega) (fun hz => ?_) (fun hz => ?_)
  · skip
    refine a_goto (tgt := 2612) C dL_law_837 rfl ?_
    refine a_pick [0, 1, 2, 3, 4, 5] (L2 := [(0, .ref bS), (1, .ref (ad2 0)), (2, .ref (ad2 40)), (3, .ref (ad2 90)), (4, .ref (ad2 91)), (5, ii_v ((i : Nat) : Int))]) rfl ?_
    exact K _ _ _ _ _ _ _ _ ⟨CL_k h4 m6, m5, hS2⟩ h6
  · have hk0 : kk = 0 := by omega
    subst hk0
    rw [if_pos rfl, ← hkv rfl]
    refine a_aload_n C dL_law_825 rfl ?_
    refine a_iconst C dL_law_826 ?_
    refine a_lald C dL_law_827 ?_
    refine a_iload C dL_law_828 rfl ?_
    refine a_i2l C dL_law_830 ?_
    refine a_lcmpE C dL_law_831 ?_
    refine a_if_eq (tgt := 837) C dL_law_832 rfl (by unfold ii_B; omega) (fun _ => ?_) (fun hz => absurd rfl hz)
    refine a_goto (tgt := 2612) C dL_law_837 rfl ?_
    refine a_pick [0, 1, 2, 3, 4, 5] (L2 := [(0, .ref bS), (1, .ref (ad2 0)), (2, .ref (ad2 40)), (3, .ref (ad2 90)), (4, .ref (ad2 91)), (5, ii_v ((i : Nat) : Int))]) rfl ?_
    exact K _ _ _ _ _ _ _ _ ⟨CL_k h4 m6, m5, hS2⟩ h6
set_option maxHeartbeats 1000000 in
theorem lc_cancel {p : Program} {l : Launch} {e : Env} {s : State} {m : MethodId} {args : Array Value} {below : List Frame} {meth : Method} {c : Code} {E : ab_E} {base : Nat} {Q : State → Prop} (C : ab_C p l s m args meth c E base 8 RL cL_law (some .boolean)) (hl : l.stackTraces = false) (hN : ab_NC s) {bS Lx : Nat} {xs : Nat → Int32} (hX : va_X bS Lx xs s s.heap) (hbl : bS < s.heap.size) (hbA : ¬ ab_A base bS) (hLx : Lx ≤ 3072) {ad : Nat → Nat} {f a : Nat → Nat → Int} {TS : Nat → List Nat} {nb nr : Nat} {tm : Int} {vL : Int64} {vD : UInt64} {k n i : Nat} (hI : IS f a TS nb nr tm) (hi : i + 6 ≤ Lx) (hk : k + 4 ≤ 601024) (hn : n + 150 ≤ 7293034) (K : lw_K p l e s m args below meth c E base Q bS tm k n i) : ab_W p l e (ab_rm 20 601024 7293034) s m args below meth c E base 8 Q ab_x4 ad (f, nb, nr, vL, vD) k n 840 [(0, .ref bS), (1, .ref (ad 0)), (2, .ref (ad 40)), (3, .ref (ad 90)), (4, .ref (ad 91)), (5, ii_v ((i : Nat) : Int))] [] := by
  obtain ⟨v1, e1⟩ : ∃ v : Int, v = (xs (i + 1)).toInt := ⟨_, rfl⟩
  have z1 : -2147483648 ≤ v1 ∧ v1 < 2147483648 := by rw [e1]; exact ii_Bof _
  obtain ⟨kk, u, v, a2, TS2, nb2, nr2, hS2, hkv, hkl, hZ, hMz⟩ := z_cancel (E := E) (base := base) (ad := ad) (ol := (vL, vD)) hl hI v1 z1
  have hkl : kk ≤ 2 := hkl
  refine a_aload_n C dL_law_840 rfl ?_
  refine a_aload_n C dL_law_841 rfl ?_
  refine a_iload C dL_law_842 rfl ?_
  refine a_iconst C dL_law_844 ?_
  refine a_iadd C dL_law_845 ?_
  refine a_siald (j := i + 1) C hX hbl hbA (by omega) (by omega) (by omega) dL_law_846 ?_
  rw [← e1]
  refine a_aload_n C dL_law_847 rfl ?_
  refine a_callSH (As := [.ref (ad 0), ii_v v1, .ref (ad 90)]) C hN (w_cancel hl hkl hZ) co_L_cancel in_L ml_L_171 sc_L_cancel ar_L_cancel ⟨by decide, by decide, by omega, by omega⟩ rfl (Nat.le_of_ble_eq_true rfl) dL_law_848 (fun ov x1 ad1 z1 hp => ?_) (fun X x1 ad1 z1 hp => by cases hp.2.2.1)
  obtain ⟨h1, h2, h3, h4, h5, h6⟩ := hp
  obtain ⟨g, w9⟩ := z1
  cases h3
  cases h2
  subst h1
  dsimp only at h4 h5
  rw [← h6 0 (by decide), ← h6 40 (by decide), ← h6 90 (by decide), ← h6 91 (by decide)]
  refine a_istore (L' := [(0, .ref bS), (1, .ref (ad1 0)), (2, .ref (ad1 40)), (3, .ref (ad1 90)), (4, .ref (ad1 91)), (5, ii_v ((i : Nat) : Int)), (6, ii_v ((kk : Nat) : Int))]) C dL_law_851 (by decide) rfl ?_
  refine a_aload_n C dL_law_853 rfl ?_
  refine a_aload_n C dL_law_854 rfl ?_
  refine a_iload C dL_law_855 rfl ?_
  refine a_iconst C dL_law_857 ?_
  refine a_iadd C dL_law_858 ?_
  refine a_siald (j := i + 1) C hX hbl hbA (by omega) (by omega) (by omega) dL_law_859 ?_
  rw [← e1]
  obtain ⟨d2, Post2, hd2, hM2, hP2⟩ := hMz ad1 g _ h4 (ML_k hI.2.1 h5)
  refine a_callV (o := 40) (As := [ii_v v1]) C hM2 co_X10_cancel in_X10 ml_L_173 im_X10_cancel se_X10_cancel rfl rfl ar_X10_cancel ⟨by omega, by decide, by omega, by omega⟩ rfl (Nat.le_of_ble_eq_true rfl) dL_law_860 (fun ov x1 ad2 z1 hp => ?_) (fun X x1 ad2 z1 hp => by cases (hP2 _ _ _ _ hp).2.2.2.1)
  obtain ⟨m1, m2, m3, m4, m5, m6, m7⟩ := hP2 _ _ _ _ hp
  obtain ⟨h, w9⟩ := z1
  cases m4
  cases m3
  subst m1 m2
  dsimp only at m5 m6 m7
  refine a_istore (L' := [(0, .ref bS), (1, .ref (ad2 0)), (2, .ref (ad2 40)), (3, .ref (ad2 90)), (4, .ref (ad2 91)), (5, ii_v ((i : Nat) : Int)), (6, ii_v ((kk : Nat) : Int)), (7, ii_v v)]) C dL_law_863 (by decide) rfl ?_
  refine a_aload_n C dL_law_865 rfl ?_
  refine a_callV (o := 40) (As := []) C (m_thrown hl h _) co_X10_thrown in_X10 ml_L_148 im_X10_thrown se_X10_thrown rfl rfl ar_X10_thrown ⟨by decide, by decide, by omega, by omega⟩ rfl (Nat.le_of_ble_eq_true rfl) dL_law_866 (a_dR ?_) a_nR
  rw [m7]
  refine a_iload C dL_law_869 rfl ?_
  refine a_icmp_eq (tgt := 876) C dL_law_871 rfl (by unfold ii_B; omega) (by unfold ii_B; omega) (fun _ => ?_) (fun hz => absurd rfl hz)
  refine a_iload C dL_law_876 rfl ?_
  refine a_if_ne (tgt := 893) C dL_law_878 rfl (by unfold ii_B; omega) (fun hz => ?_) (fun hz => ?_)
  · skip
    refine a_goto (tgt := 2612) C dL_law_893 rfl ?_
    refine a_pick [0, 1, 2, 3, 4, 5] (L2 := [(0, .ref bS), (1, .ref (ad2 0)), (2, .ref (ad2 40)), (3, .ref (ad2 90)), (4, .ref (ad2 91)), (5, ii_v ((i : Nat) : Int))]) rfl ?_
    exact K _ _ _ _ _ _ _ _ ⟨CL_k h4 m6, m5, hS2⟩ h6
  · have hk0 : kk = 0 := by omega
    subst hk0
    rw [if_pos rfl, ← hkv rfl]
    refine a_aload_n C dL_law_881 rfl ?_
    refine a_iconst C dL_law_882 ?_
    refine a_lald C dL_law_883 ?_
    refine a_iload C dL_law_884 rfl ?_
    refine a_i2l C dL_law_886 ?_
    refine a_lcmpE C dL_law_887 ?_
    refine a_if_eq (tgt := 893) C dL_law_888 rfl (by unfold ii_B; omega) (fun _ => ?_) (fun hz => absurd rfl hz)
    refine a_goto (tgt := 2612) C dL_law_893 rfl ?_
    refine a_pick [0, 1, 2, 3, 4, 5] (L2 := [(0, .ref bS), (1, .ref (ad2 0)), (2, .ref (ad2 40)), (3, .ref (ad2 90)), (4, .ref (ad2 91)), (5, ii_v ((i : Nat) : Int))]) rfl ?_
    exact K _ _ _ _ _ _ _ _ ⟨CL_k h4 m6, m5, hS2⟩ h6
set_option maxHeartbeats 1000000 in
theorem lc_status {p : Program} {l : Launch} {e : Env} {s : State} {m : MethodId} {args : Array Value} {below : List Frame} {meth : Method} {c : Code} {E : ab_E} {base : Nat} {Q : State → Prop} (C : ab_C p l s m args meth c E base 8 RL cL_law (some .boolean)) (hl : l.stackTraces = false) (hN : ab_NC s) {bS Lx : Nat} {xs : Nat → Int32} (hX : va_X bS Lx xs s s.heap) (hbl : bS < s.heap.size) (hbA : ¬ ab_A base bS) (hLx : Lx ≤ 3072) {ad : Nat → Nat} {f a : Nat → Nat → Int} {TS : Nat → List Nat} {nb nr : Nat} {tm : Int} {vL : Int64} {vD : UInt64} {k n i : Nat} (hI : IS f a TS nb nr tm) (hi : i + 6 ≤ Lx) (hk : k + 4 ≤ 601024) (hn : n + 150 ≤ 7293034) (K : lw_K p l e s m args below meth c E base Q bS tm k n i) : ab_W p l e (ab_rm 20 601024 7293034) s m args below meth c E base 8 Q ab_x4 ad (f, nb, nr, vL, vD) k n 896 [(0, .ref bS), (1, .ref (ad 0)), (2, .ref (ad 40)), (3, .ref (ad 90)), (4, .ref (ad 91)), (5, ii_v ((i : Nat) : Int))] [] := by
  obtain ⟨v1, e1⟩ : ∃ v : Int, v = (xs (i + 1)).toInt := ⟨_, rfl⟩
  have z1 : -2147483648 ≤ v1 ∧ v1 < 2147483648 := by rw [e1]; exact ii_Bof _
  obtain ⟨kk, u, v, a2, TS2, nb2, nr2, hS2, hkv, hkl, hZ, hMz⟩ := z_status (E := E) (base := base) (ad := ad) (ol := (vL, vD)) hl hI v1 z1
  have hkl : kk ≤ 1 := hkl
  refine a_aload_n C dL_law_896 rfl ?_
  refine a_aload_n C dL_law_897 rfl ?_
  refine a_iload C dL_law_898 rfl ?_
  refine a_iconst C dL_law_900 ?_
  refine a_iadd C dL_law_901 ?_
  refine a_siald (j := i + 1) C hX hbl hbA (by omega) (by omega) (by omega) dL_law_902 ?_
  rw [← e1]
  refine a_aload_n C dL_law_903 rfl ?_
  refine a_callSH (As := [.ref (ad 0), ii_v v1, .ref (ad 90)]) C hN (w_status hl hkl hZ) co_L_status in_L ml_L_174 sc_L_status ar_L_status ⟨by decide, by decide, by omega, by omega⟩ rfl (Nat.le_of_ble_eq_true rfl) dL_law_904 (fun ov x1 ad1 z1 hp => ?_) (fun X x1 ad1 z1 hp => by cases hp.2.2.1)
  obtain ⟨h1, h2, h3, h4, h5, h6⟩ := hp
  obtain ⟨g, w9⟩ := z1
  cases h3
  cases h2
  subst h1
  dsimp only at h4 h5
  rw [← h6 0 (by decide), ← h6 40 (by decide), ← h6 90 (by decide), ← h6 91 (by decide)]
  refine a_istore (L' := [(0, .ref bS), (1, .ref (ad1 0)), (2, .ref (ad1 40)), (3, .ref (ad1 90)), (4, .ref (ad1 91)), (5, ii_v ((i : Nat) : Int)), (6, ii_v ((kk : Nat) : Int))]) C dL_law_907 (by decide) rfl ?_
  refine a_aload_n C dL_law_909 rfl ?_
  refine a_aload_n C dL_law_910 rfl ?_
  refine a_iload C dL_law_911 rfl ?_
  refine a_iconst C dL_law_913 ?_
  refine a_iadd C dL_law_914 ?_
  refine a_siald (j := i + 1) C hX hbl hbA (by omega) (by omega) (by omega) dL_law_915 ?_
  rw [← e1]
  obtain ⟨d2, Post2, hd2, hM2, hP2⟩ := hMz ad1 g _ h4 (ML_k hI.2.1 h5)
  refine a_callV (o := 40) (As := [ii_v v1]) C hM2 co_X10_status in_X10 ml_L_176 im_X10_status se_X10_status rfl rfl ar_X10_status ⟨by omega, by decide, by omega, by omega⟩ rfl (Nat.le_of_ble_eq_true rfl) dL_law_916 (fun ov x1 ad2 z1 hp => ?_) (fun X x1 ad2 z1 hp => by cases (hP2 _ _ _ _ hp).2.2.2.1)
  obtain ⟨m1, m2, m3, m4, m5, m6, m7⟩ := hP2 _ _ _ _ hp
  obtain ⟨h, w9⟩ := z1
  cases m4
  cases m3
  subst m1 m2
  dsimp only at m5 m6 m7
  refine a_istore (L' := [(0, .ref bS), (1, .ref (ad2 0)), (2, .ref (ad2 40)), (3, .ref (ad2 90)), (4, .ref (ad2 91)), (5, ii_v ((i : Nat) : Int)), (6, ii_v ((kk : Nat) : Int)), (7, ii_v v)]) C dL_law_919 (by decide) rfl ?_
  refine a_aload_n C dL_law_921 rfl ?_
  refine a_callV (o := 40) (As := []) C (m_thrown hl h _) co_X10_thrown in_X10 ml_L_148 im_X10_thrown se_X10_thrown rfl rfl ar_X10_thrown ⟨by decide, by decide, by omega, by omega⟩ rfl (Nat.le_of_ble_eq_true rfl) dL_law_922 (a_dR ?_) a_nR
  rw [m7]
  refine a_iload C dL_law_925 rfl ?_
  refine a_icmp_eq (tgt := 932) C dL_law_927 rfl (by unfold ii_B; omega) (by unfold ii_B; omega) (fun _ => ?_) (fun hz => absurd rfl hz)
  refine a_iload C dL_law_932 rfl ?_
  refine a_if_ne (tgt := 949) C dL_law_934 rfl (by unfold ii_B; omega) (fun hz => ?_) (fun hz => ?_)
  · skip
    refine a_goto (tgt := 2612) C dL_law_949 rfl ?_
    refine a_pick [0, 1, 2, 3, 4, 5] (L2 := [(0, .ref bS), (1, .ref (ad2 0)), (2, .ref (ad2 40)), (3, .ref (ad2 90)), (4, .ref (ad2 91)), (5, ii_v ((i : Nat) : Int))]) rfl ?_
    exact K _ _ _ _ _ _ _ _ ⟨CL_k h4 m6, m5, hS2⟩ h6
  · have hk0 : kk = 0 := by omega
    subst hk0
    rw [if_pos rfl, ← hkv rfl]
    refine a_aload_n C dL_law_937 rfl ?_
    refine a_iconst C dL_law_938 ?_
    refine a_lald C dL_law_939 ?_
    refine a_iload C dL_law_940 rfl ?_
    refine a_i2l C dL_law_942 ?_
    refine a_lcmpE C dL_law_943 ?_
    refine a_if_eq (tgt := 949) C dL_law_944 rfl (by unfold ii_B; omega) (fun _ => ?_) (fun hz => absurd rfl hz)
    refine a_goto (tgt := 2612) C dL_law_949 rfl ?_
    refine a_pick [0, 1, 2, 3, 4, 5] (L2 := [(0, .ref bS), (1, .ref (ad2 0)), (2, .ref (ad2 40)), (3, .ref (ad2 90)), (4, .ref (ad2 91)), (5, ii_v ((i : Nat) : Int))]) rfl ?_
    exact K _ _ _ _ _ _ _ _ ⟨CL_k h4 m6, m5, hS2⟩ h6
set_option maxHeartbeats 1000000 in
theorem lc_reason {p : Program} {l : Launch} {e : Env} {s : State} {m : MethodId} {args : Array Value} {below : List Frame} {meth : Method} {c : Code} {E : ab_E} {base : Nat} {Q : State → Prop} (C : ab_C p l s m args meth c E base 8 RL cL_law (some .boolean)) (hl : l.stackTraces = false) (hN : ab_NC s) {bS Lx : Nat} {xs : Nat → Int32} (hX : va_X bS Lx xs s s.heap) (hbl : bS < s.heap.size) (hbA : ¬ ab_A base bS) (hLx : Lx ≤ 3072) {ad : Nat → Nat} {f a : Nat → Nat → Int} {TS : Nat → List Nat} {nb nr : Nat} {tm : Int} {vL : Int64} {vD : UInt64} {k n i : Nat} (hI : IS f a TS nb nr tm) (hi : i + 6 ≤ Lx) (hk : k + 4 ≤ 601024) (hn : n + 150 ≤ 7293034) (K : lw_K p l e s m args below meth c E base Q bS tm k n i) : ab_W p l e (ab_rm 20 601024 7293034) s m args below meth c E base 8 Q ab_x4 ad (f, nb, nr, vL, vD) k n 952 [(0, .ref bS), (1, .ref (ad 0)), (2, .ref (ad 40)), (3, .ref (ad 90)), (4, .ref (ad 91)), (5, ii_v ((i : Nat) : Int))] [] := by
  obtain ⟨v1, e1⟩ : ∃ v : Int, v = (xs (i + 1)).toInt := ⟨_, rfl⟩
  have z1 : -2147483648 ≤ v1 ∧ v1 < 2147483648 := by rw [e1]; exact ii_Bof _
  obtain ⟨kk, u, v, a2, TS2, nb2, nr2, hS2, hkv, hkl, hZ, hMz⟩ := z_reason (E := E) (base := base) (ad := ad) (ol := (vL, vD)) hl hI v1 z1
  have hkl : kk ≤ 2 := hkl
  refine a_aload_n C dL_law_952 rfl ?_
  refine a_aload_n C dL_law_953 rfl ?_
  refine a_iload C dL_law_954 rfl ?_
  refine a_iconst C dL_law_956 ?_
  refine a_iadd C dL_law_957 ?_
  refine a_siald (j := i + 1) C hX hbl hbA (by omega) (by omega) (by omega) dL_law_958 ?_
  rw [← e1]
  refine a_aload_n C dL_law_959 rfl ?_
  refine a_callSH (As := [.ref (ad 0), ii_v v1, .ref (ad 90)]) C hN (w_reason hl hkl hZ) co_L_reason in_L ml_L_177 sc_L_reason ar_L_reason ⟨by decide, by decide, by omega, by omega⟩ rfl (Nat.le_of_ble_eq_true rfl) dL_law_960 (fun ov x1 ad1 z1 hp => ?_) (fun X x1 ad1 z1 hp => by cases hp.2.2.1)
  obtain ⟨h1, h2, h3, h4, h5, h6⟩ := hp
  obtain ⟨g, w9⟩ := z1
  cases h3
  cases h2
  subst h1
  dsimp only at h4 h5
  rw [← h6 0 (by decide), ← h6 40 (by decide), ← h6 90 (by decide), ← h6 91 (by decide)]
  refine a_istore (L' := [(0, .ref bS), (1, .ref (ad1 0)), (2, .ref (ad1 40)), (3, .ref (ad1 90)), (4, .ref (ad1 91)), (5, ii_v ((i : Nat) : Int)), (6, ii_v ((kk : Nat) : Int))]) C dL_law_963 (by decide) rfl ?_
  refine a_aload_n C dL_law_965 rfl ?_
  refine a_aload_n C dL_law_966 rfl ?_
  refine a_iload C dL_law_967 rfl ?_
  refine a_iconst C dL_law_969 ?_
  refine a_iadd C dL_law_970 ?_
  refine a_siald (j := i + 1) C hX hbl hbA (by omega) (by omega) (by omega) dL_law_971 ?_
  rw [← e1]
  obtain ⟨d2, Post2, hd2, hM2, hP2⟩ := hMz ad1 g _ h4 (ML_k hI.2.1 h5)
  refine a_callV (o := 40) (As := [ii_v v1]) C hM2 co_X10_reason in_X10 ml_L_179 im_X10_reason se_X10_reason rfl rfl ar_X10_reason ⟨by omega, by decide, by omega, by omega⟩ rfl (Nat.le_of_ble_eq_true rfl) dL_law_972 (fun ov x1 ad2 z1 hp => ?_) (fun X x1 ad2 z1 hp => by cases (hP2 _ _ _ _ hp).2.2.2.1)
  obtain ⟨m1, m2, m3, m4, m5, m6, m7⟩ := hP2 _ _ _ _ hp
  obtain ⟨h, w9⟩ := z1
  cases m4
  cases m3
  subst m1 m2
  dsimp only at m5 m6 m7
  refine a_istore (L' := [(0, .ref bS), (1, .ref (ad2 0)), (2, .ref (ad2 40)), (3, .ref (ad2 90)), (4, .ref (ad2 91)), (5, ii_v ((i : Nat) : Int)), (6, ii_v ((kk : Nat) : Int)), (7, ii_v v)]) C dL_law_975 (by decide) rfl ?_
  refine a_aload_n C dL_law_977 rfl ?_
  refine a_callV (o := 40) (As := []) C (m_thrown hl h _) co_X10_thrown in_X10 ml_L_148 im_X10_thrown se_X10_thrown rfl rfl ar_X10_thrown ⟨by decide, by decide, by omega, by omega⟩ rfl (Nat.le_of_ble_eq_true rfl) dL_law_978 (a_dR ?_) a_nR
  rw [m7]
  refine a_iload C dL_law_981 rfl ?_
  refine a_icmp_eq (tgt := 988) C dL_law_983 rfl (by unfold ii_B; omega) (by unfold ii_B; omega) (fun _ => ?_) (fun hz => absurd rfl hz)
  refine a_iload C dL_law_988 rfl ?_
  refine a_if_ne (tgt := 1005) C dL_law_990 rfl (by unfold ii_B; omega) (fun hz => ?_) (fun hz => ?_)
  · skip
    refine a_goto (tgt := 2612) C dL_law_1005 rfl ?_
    refine a_pick [0, 1, 2, 3, 4, 5] (L2 := [(0, .ref bS), (1, .ref (ad2 0)), (2, .ref (ad2 40)), (3, .ref (ad2 90)), (4, .ref (ad2 91)), (5, ii_v ((i : Nat) : Int))]) rfl ?_
    exact K _ _ _ _ _ _ _ _ ⟨CL_k h4 m6, m5, hS2⟩ h6
  · have hk0 : kk = 0 := by omega
    subst hk0
    rw [if_pos rfl, ← hkv rfl]
    refine a_aload_n C dL_law_993 rfl ?_
    refine a_iconst C dL_law_994 ?_
    refine a_lald C dL_law_995 ?_
    refine a_iload C dL_law_996 rfl ?_
    refine a_i2l C dL_law_998 ?_
    refine a_lcmpE C dL_law_999 ?_
    refine a_if_eq (tgt := 1005) C dL_law_1000 rfl (by unfold ii_B; omega) (fun _ => ?_) (fun hz => absurd rfl hz)
    refine a_goto (tgt := 2612) C dL_law_1005 rfl ?_
    refine a_pick [0, 1, 2, 3, 4, 5] (L2 := [(0, .ref bS), (1, .ref (ad2 0)), (2, .ref (ad2 40)), (3, .ref (ad2 90)), (4, .ref (ad2 91)), (5, ii_v ((i : Nat) : Int))]) rfl ?_
    exact K _ _ _ _ _ _ _ _ ⟨CL_k h4 m6, m5, hS2⟩ h6
set_option maxHeartbeats 1000000 in
theorem lc_busOf {p : Program} {l : Launch} {e : Env} {s : State} {m : MethodId} {args : Array Value} {below : List Frame} {meth : Method} {c : Code} {E : ab_E} {base : Nat} {Q : State → Prop} (C : ab_C p l s m args meth c E base 8 RL cL_law (some .boolean)) (hl : l.stackTraces = false) (hN : ab_NC s) {bS Lx : Nat} {xs : Nat → Int32} (hX : va_X bS Lx xs s s.heap) (hbl : bS < s.heap.size) (hbA : ¬ ab_A base bS) (hLx : Lx ≤ 3072) {ad : Nat → Nat} {f a : Nat → Nat → Int} {TS : Nat → List Nat} {nb nr : Nat} {tm : Int} {vL : Int64} {vD : UInt64} {k n i : Nat} (hI : IS f a TS nb nr tm) (hi : i + 6 ≤ Lx) (hk : k + 4 ≤ 601024) (hn : n + 150 ≤ 7293034) (K : lw_K p l e s m args below meth c E base Q bS tm k n i) : ab_W p l e (ab_rm 20 601024 7293034) s m args below meth c E base 8 Q ab_x4 ad (f, nb, nr, vL, vD) k n 1008 [(0, .ref bS), (1, .ref (ad 0)), (2, .ref (ad 40)), (3, .ref (ad 90)), (4, .ref (ad 91)), (5, ii_v ((i : Nat) : Int))] [] := by
  obtain ⟨v1, e1⟩ : ∃ v : Int, v = (xs (i + 1)).toInt := ⟨_, rfl⟩
  have z1 : -2147483648 ≤ v1 ∧ v1 < 2147483648 := by rw [e1]; exact ii_Bof _
  obtain ⟨kk, u, v, a2, TS2, nb2, nr2, hS2, hkv, hkl, hZ, hMz⟩ := z_busOf (E := E) (base := base) (ad := ad) (ol := (vL, vD)) hl hI v1 z1
  have hkl : kk ≤ 2 := hkl
  refine a_aload_n C dL_law_1008 rfl ?_
  refine a_aload_n C dL_law_1009 rfl ?_
  refine a_iload C dL_law_1010 rfl ?_
  refine a_iconst C dL_law_1012 ?_
  refine a_iadd C dL_law_1013 ?_
  refine a_siald (j := i + 1) C hX hbl hbA (by omega) (by omega) (by omega) dL_law_1014 ?_
  rw [← e1]
  refine a_aload_n C dL_law_1015 rfl ?_
  refine a_callSH (As := [.ref (ad 0), ii_v v1, .ref (ad 90)]) C hN (w_busOf hl hkl hZ) co_L_busOf in_L ml_L_180 sc_L_busOf ar_L_busOf ⟨by decide, by decide, by omega, by omega⟩ rfl (Nat.le_of_ble_eq_true rfl) dL_law_1016 (fun ov x1 ad1 z1 hp => ?_) (fun X x1 ad1 z1 hp => by cases hp.2.2.1)
  obtain ⟨h1, h2, h3, h4, h5, h6⟩ := hp
  obtain ⟨g, w9⟩ := z1
  cases h3
  cases h2
  subst h1
  dsimp only at h4 h5
  rw [← h6 0 (by decide), ← h6 40 (by decide), ← h6 90 (by decide), ← h6 91 (by decide)]
  refine a_istore (L' := [(0, .ref bS), (1, .ref (ad1 0)), (2, .ref (ad1 40)), (3, .ref (ad1 90)), (4, .ref (ad1 91)), (5, ii_v ((i : Nat) : Int)), (6, ii_v ((kk : Nat) : Int))]) C dL_law_1019 (by decide) rfl ?_
  refine a_aload_n C dL_law_1021 rfl ?_
  refine a_aload_n C dL_law_1022 rfl ?_
  refine a_iload C dL_law_1023 rfl ?_
  refine a_iconst C dL_law_1025 ?_
  refine a_iadd C dL_law_1026 ?_
  refine a_siald (j := i + 1) C hX hbl hbA (by omega) (by omega) (by omega) dL_law_1027 ?_
  rw [← e1]
  obtain ⟨d2, Post2, hd2, hM2, hP2⟩ := hMz ad1 g _ h4 (ML_k hI.2.1 h5)
  refine a_callV (o := 40) (As := [ii_v v1]) C hM2 co_X10_busOf in_X10 ml_L_182 im_X10_busOf se_X10_busOf rfl rfl ar_X10_busOf ⟨by omega, by decide, by omega, by omega⟩ rfl (Nat.le_of_ble_eq_true rfl) dL_law_1028 (fun ov x1 ad2 z1 hp => ?_) (fun X x1 ad2 z1 hp => by cases (hP2 _ _ _ _ hp).2.2.2.1)
  obtain ⟨m1, m2, m3, m4, m5, m6, m7⟩ := hP2 _ _ _ _ hp
  obtain ⟨h, w9⟩ := z1
  cases m4
  cases m3
  subst m1 m2
  dsimp only at m5 m6 m7
  refine a_istore (L' := [(0, .ref bS), (1, .ref (ad2 0)), (2, .ref (ad2 40)), (3, .ref (ad2 90)), (4, .ref (ad2 91)), (5, ii_v ((i : Nat) : Int)), (6, ii_v ((kk : Nat) : Int)), (7, ii_v v)]) C dL_law_1031 (by decide) rfl ?_
  refine a_aload_n C dL_law_1033 rfl ?_
  refine a_callV (o := 40) (As := []) C (m_thrown hl h _) co_X10_thrown in_X10 ml_L_148 im_X10_thrown se_X10_thrown rfl rfl ar_X10_thrown ⟨by decide, by decide, by omega, by omega⟩ rfl (Nat.le_of_ble_eq_true rfl) dL_law_1034 (a_dR ?_) a_nR
  rw [m7]
  refine a_iload C dL_law_1037 rfl ?_
  refine a_icmp_eq (tgt := 1044) C dL_law_1039 rfl (by unfold ii_B; omega) (by unfold ii_B; omega) (fun _ => ?_) (fun hz => absurd rfl hz)
  refine a_iload C dL_law_1044 rfl ?_
  refine a_if_ne (tgt := 1061) C dL_law_1046 rfl (by unfold ii_B; omega) (fun hz => ?_) (fun hz => ?_)
  · skip
    refine a_goto (tgt := 2612) C dL_law_1061 rfl ?_
    refine a_pick [0, 1, 2, 3, 4, 5] (L2 := [(0, .ref bS), (1, .ref (ad2 0)), (2, .ref (ad2 40)), (3, .ref (ad2 90)), (4, .ref (ad2 91)), (5, ii_v ((i : Nat) : Int))]) rfl ?_
    exact K _ _ _ _ _ _ _ _ ⟨CL_k h4 m6, m5, hS2⟩ h6
  · have hk0 : kk = 0 := by omega
    subst hk0
    rw [if_pos rfl, ← hkv rfl]
    refine a_aload_n C dL_law_1049 rfl ?_
    refine a_iconst C dL_law_1050 ?_
    refine a_lald C dL_law_1051 ?_
    refine a_iload C dL_law_1052 rfl ?_
    refine a_i2l C dL_law_1054 ?_
    refine a_lcmpE C dL_law_1055 ?_
    refine a_if_eq (tgt := 1061) C dL_law_1056 rfl (by unfold ii_B; omega) (fun _ => ?_) (fun hz => absurd rfl hz)
    refine a_goto (tgt := 2612) C dL_law_1061 rfl ?_
    refine a_pick [0, 1, 2, 3, 4, 5] (L2 := [(0, .ref bS), (1, .ref (ad2 0)), (2, .ref (ad2 40)), (3, .ref (ad2 90)), (4, .ref (ad2 91)), (5, ii_v ((i : Nat) : Int))]) rfl ?_
    exact K _ _ _ _ _ _ _ _ ⟨CL_k h4 m6, m5, hS2⟩ h6
set_option maxHeartbeats 1000000 in
theorem lc_latestPickup {p : Program} {l : Launch} {e : Env} {s : State} {m : MethodId} {args : Array Value} {below : List Frame} {meth : Method} {c : Code} {E : ab_E} {base : Nat} {Q : State → Prop} (C : ab_C p l s m args meth c E base 8 RL cL_law (some .boolean)) (hl : l.stackTraces = false) (hN : ab_NC s) {bS Lx : Nat} {xs : Nat → Int32} (hX : va_X bS Lx xs s s.heap) (hbl : bS < s.heap.size) (hbA : ¬ ab_A base bS) (hLx : Lx ≤ 3072) {ad : Nat → Nat} {f a : Nat → Nat → Int} {TS : Nat → List Nat} {nb nr : Nat} {tm : Int} {vL : Int64} {vD : UInt64} {k n i : Nat} (hI : IS f a TS nb nr tm) (hi : i + 6 ≤ Lx) (hk : k + 4 ≤ 601024) (hn : n + 150 ≤ 7293034) (K : lw_K p l e s m args below meth c E base Q bS tm k n i) : ab_W p l e (ab_rm 20 601024 7293034) s m args below meth c E base 8 Q ab_x4 ad (f, nb, nr, vL, vD) k n 1064 [(0, .ref bS), (1, .ref (ad 0)), (2, .ref (ad 40)), (3, .ref (ad 90)), (4, .ref (ad 91)), (5, ii_v ((i : Nat) : Int))] [] := by
  obtain ⟨v1, e1⟩ : ∃ v : Int, v = (xs (i + 1)).toInt := ⟨_, rfl⟩
  have z1 : -2147483648 ≤ v1 ∧ v1 < 2147483648 := by rw [e1]; exact ii_Bof _
  obtain ⟨kk, u, v, a2, TS2, nb2, nr2, hS2, hkv, hkl, hZ, hMz⟩ := z_latestPickup (E := E) (base := base) (ad := ad) (ol := (vL, vD)) hl hI v1 z1
  have hkl : kk ≤ 1 := hkl
  refine a_aload_n C dL_law_1064 rfl ?_
  refine a_aload_n C dL_law_1065 rfl ?_
  refine a_iload C dL_law_1066 rfl ?_
  refine a_iconst C dL_law_1068 ?_
  refine a_iadd C dL_law_1069 ?_
  refine a_siald (j := i + 1) C hX hbl hbA (by omega) (by omega) (by omega) dL_law_1070 ?_
  rw [← e1]
  refine a_aload_n C dL_law_1071 rfl ?_
  refine a_callSH (As := [.ref (ad 0), ii_v v1, .ref (ad 90)]) C hN (w_latestPickup hl hkl hZ) co_L_latestPickup in_L ml_L_183 sc_L_latestPickup ar_L_latestPickup ⟨by decide, by decide, by omega, by omega⟩ rfl (Nat.le_of_ble_eq_true rfl) dL_law_1072 (fun ov x1 ad1 z1 hp => ?_) (fun X x1 ad1 z1 hp => by cases hp.2.2.1)
  obtain ⟨h1, h2, h3, h4, h5, h6⟩ := hp
  obtain ⟨g, w9⟩ := z1
  cases h3
  cases h2
  subst h1
  dsimp only at h4 h5
  rw [← h6 0 (by decide), ← h6 40 (by decide), ← h6 90 (by decide), ← h6 91 (by decide)]
  refine a_istore (L' := [(0, .ref bS), (1, .ref (ad1 0)), (2, .ref (ad1 40)), (3, .ref (ad1 90)), (4, .ref (ad1 91)), (5, ii_v ((i : Nat) : Int)), (6, ii_v ((kk : Nat) : Int))]) C dL_law_1075 (by decide) rfl ?_
  refine a_aload_n C dL_law_1077 rfl ?_
  refine a_aload_n C dL_law_1078 rfl ?_
  refine a_iload C dL_law_1079 rfl ?_
  refine a_iconst C dL_law_1081 ?_
  refine a_iadd C dL_law_1082 ?_
  refine a_siald (j := i + 1) C hX hbl hbA (by omega) (by omega) (by omega) dL_law_1083 ?_
  rw [← e1]
  obtain ⟨d2, Post2, hd2, hM2, hP2⟩ := hMz ad1 g _ h4 (ML_k hI.2.1 h5)
  refine a_callV (o := 40) (As := [ii_v v1]) C hM2 co_X10_latestPickup in_X10 ml_L_185 im_X10_latestPickup se_X10_latestPickup rfl rfl ar_X10_latestPickup ⟨by omega, by decide, by omega, by omega⟩ rfl (Nat.le_of_ble_eq_true rfl) dL_law_1084 (fun ov x1 ad2 z1 hp => ?_) (fun X x1 ad2 z1 hp => by cases (hP2 _ _ _ _ hp).2.2.2.1)
  obtain ⟨m1, m2, m3, m4, m5, m6, m7⟩ := hP2 _ _ _ _ hp
  obtain ⟨h, w9⟩ := z1
  cases m4
  cases m3
  subst m1 m2
  dsimp only at m5 m6 m7
  refine a_istore (L' := [(0, .ref bS), (1, .ref (ad2 0)), (2, .ref (ad2 40)), (3, .ref (ad2 90)), (4, .ref (ad2 91)), (5, ii_v ((i : Nat) : Int)), (6, ii_v ((kk : Nat) : Int)), (7, ii_v v)]) C dL_law_1087 (by decide) rfl ?_
  refine a_aload_n C dL_law_1089 rfl ?_
  refine a_callV (o := 40) (As := []) C (m_thrown hl h _) co_X10_thrown in_X10 ml_L_148 im_X10_thrown se_X10_thrown rfl rfl ar_X10_thrown ⟨by decide, by decide, by omega, by omega⟩ rfl (Nat.le_of_ble_eq_true rfl) dL_law_1090 (a_dR ?_) a_nR
  rw [m7]
  refine a_iload C dL_law_1093 rfl ?_
  refine a_icmp_eq (tgt := 1100) C dL_law_1095 rfl (by unfold ii_B; omega) (by unfold ii_B; omega) (fun _ => ?_) (fun hz => absurd rfl hz)
  refine a_iload C dL_law_1100 rfl ?_
  refine a_if_ne (tgt := 1117) C dL_law_1102 rfl (by unfold ii_B; omega) (fun hz => ?_) (fun hz => ?_)
  · skip
    refine a_goto (tgt := 2612) C dL_law_1117 rfl ?_
    refine a_pick [0, 1, 2, 3, 4, 5] (L2 := [(0, .ref bS), (1, .ref (ad2 0)), (2, .ref (ad2 40)), (3, .ref (ad2 90)), (4, .ref (ad2 91)), (5, ii_v ((i : Nat) : Int))]) rfl ?_
    exact K _ _ _ _ _ _ _ _ ⟨CL_k h4 m6, m5, hS2⟩ h6
  · have hk0 : kk = 0 := by omega
    subst hk0
    rw [if_pos rfl, ← hkv rfl]
    refine a_aload_n C dL_law_1105 rfl ?_
    refine a_iconst C dL_law_1106 ?_
    refine a_lald C dL_law_1107 ?_
    refine a_iload C dL_law_1108 rfl ?_
    refine a_i2l C dL_law_1110 ?_
    refine a_lcmpE C dL_law_1111 ?_
    refine a_if_eq (tgt := 1117) C dL_law_1112 rfl (by unfold ii_B; omega) (fun _ => ?_) (fun hz => absurd rfl hz)
    refine a_goto (tgt := 2612) C dL_law_1117 rfl ?_
    refine a_pick [0, 1, 2, 3, 4, 5] (L2 := [(0, .ref bS), (1, .ref (ad2 0)), (2, .ref (ad2 40)), (3, .ref (ad2 90)), (4, .ref (ad2 91)), (5, ii_v ((i : Nat) : Int))]) rfl ?_
    exact K _ _ _ _ _ _ _ _ ⟨CL_k h4 m6, m5, hS2⟩ h6
set_option maxHeartbeats 1000000 in
theorem lc_longestRide {p : Program} {l : Launch} {e : Env} {s : State} {m : MethodId} {args : Array Value} {below : List Frame} {meth : Method} {c : Code} {E : ab_E} {base : Nat} {Q : State → Prop} (C : ab_C p l s m args meth c E base 8 RL cL_law (some .boolean)) (hl : l.stackTraces = false) (hN : ab_NC s) {bS Lx : Nat} {xs : Nat → Int32} (hX : va_X bS Lx xs s s.heap) (hbl : bS < s.heap.size) (hbA : ¬ ab_A base bS) (hLx : Lx ≤ 3072) {ad : Nat → Nat} {f a : Nat → Nat → Int} {TS : Nat → List Nat} {nb nr : Nat} {tm : Int} {vL : Int64} {vD : UInt64} {k n i : Nat} (hI : IS f a TS nb nr tm) (hi : i + 6 ≤ Lx) (hk : k + 4 ≤ 601024) (hn : n + 150 ≤ 7293034) (K : lw_K p l e s m args below meth c E base Q bS tm k n i) : ab_W p l e (ab_rm 20 601024 7293034) s m args below meth c E base 8 Q ab_x4 ad (f, nb, nr, vL, vD) k n 1120 [(0, .ref bS), (1, .ref (ad 0)), (2, .ref (ad 40)), (3, .ref (ad 90)), (4, .ref (ad 91)), (5, ii_v ((i : Nat) : Int))] [] := by
  obtain ⟨v1, e1⟩ : ∃ v : Int, v = (xs (i + 1)).toInt := ⟨_, rfl⟩
  have z1 : -2147483648 ≤ v1 ∧ v1 < 2147483648 := by rw [e1]; exact ii_Bof _
  obtain ⟨kk, u, v, a2, TS2, nb2, nr2, hS2, hkv, hkl, hZ, hMz⟩ := z_longestRide (E := E) (base := base) (ad := ad) (ol := (vL, vD)) hl hI v1 z1
  have hkl : kk ≤ 1 := hkl
  refine a_aload_n C dL_law_1120 rfl ?_
  refine a_aload_n C dL_law_1121 rfl ?_
  refine a_iload C dL_law_1122 rfl ?_
  refine a_iconst C dL_law_1124 ?_
  refine a_iadd C dL_law_1125 ?_
  refine a_siald (j := i + 1) C hX hbl hbA (by omega) (by omega) (by omega) dL_law_1126 ?_
  rw [← e1]
  refine a_aload_n C dL_law_1127 rfl ?_
  refine a_callSH (As := [.ref (ad 0), ii_v v1, .ref (ad 90)]) C hN (w_longestRide hl hkl hZ) co_L_longestRide in_L ml_L_186 sc_L_longestRide ar_L_longestRide ⟨by decide, by decide, by omega, by omega⟩ rfl (Nat.le_of_ble_eq_true rfl) dL_law_1128 (fun ov x1 ad1 z1 hp => ?_) (fun X x1 ad1 z1 hp => by cases hp.2.2.1)
  obtain ⟨h1, h2, h3, h4, h5, h6⟩ := hp
  obtain ⟨g, w9⟩ := z1
  cases h3
  cases h2
  subst h1
  dsimp only at h4 h5
  rw [← h6 0 (by decide), ← h6 40 (by decide), ← h6 90 (by decide), ← h6 91 (by decide)]
  refine a_istore (L' := [(0, .ref bS), (1, .ref (ad1 0)), (2, .ref (ad1 40)), (3, .ref (ad1 90)), (4, .ref (ad1 91)), (5, ii_v ((i : Nat) : Int)), (6, ii_v ((kk : Nat) : Int))]) C dL_law_1131 (by decide) rfl ?_
  refine a_aload_n C dL_law_1133 rfl ?_
  refine a_aload_n C dL_law_1134 rfl ?_
  refine a_iload C dL_law_1135 rfl ?_
  refine a_iconst C dL_law_1137 ?_
  refine a_iadd C dL_law_1138 ?_
  refine a_siald (j := i + 1) C hX hbl hbA (by omega) (by omega) (by omega) dL_law_1139 ?_
  rw [← e1]
  obtain ⟨d2, Post2, hd2, hM2, hP2⟩ := hMz ad1 g _ h4 (ML_k hI.2.1 h5)
  refine a_callV (o := 40) (As := [ii_v v1]) C hM2 co_X10_longestRide in_X10 ml_L_188 im_X10_longestRide se_X10_longestRide rfl rfl ar_X10_longestRide ⟨by omega, by decide, by omega, by omega⟩ rfl (Nat.le_of_ble_eq_true rfl) dL_law_1140 (fun ov x1 ad2 z1 hp => ?_) (fun X x1 ad2 z1 hp => by cases (hP2 _ _ _ _ hp).2.2.2.1)
  obtain ⟨m1, m2, m3, m4, m5, m6, m7⟩ := hP2 _ _ _ _ hp
  obtain ⟨h, w9⟩ := z1
  cases m4
  cases m3
  subst m1 m2
  dsimp only at m5 m6 m7
  refine a_istore (L' := [(0, .ref bS), (1, .ref (ad2 0)), (2, .ref (ad2 40)), (3, .ref (ad2 90)), (4, .ref (ad2 91)), (5, ii_v ((i : Nat) : Int)), (6, ii_v ((kk : Nat) : Int)), (7, ii_v v)]) C dL_law_1143 (by decide) rfl ?_
  refine a_aload_n C dL_law_1145 rfl ?_
  refine a_callV (o := 40) (As := []) C (m_thrown hl h _) co_X10_thrown in_X10 ml_L_148 im_X10_thrown se_X10_thrown rfl rfl ar_X10_thrown ⟨by decide, by decide, by omega, by omega⟩ rfl (Nat.le_of_ble_eq_true rfl) dL_law_1146 (a_dR ?_) a_nR
  rw [m7]
  refine a_iload C dL_law_1149 rfl ?_
  refine a_icmp_eq (tgt := 1156) C dL_law_1151 rfl (by unfold ii_B; omega) (by unfold ii_B; omega) (fun _ => ?_) (fun hz => absurd rfl hz)
  refine a_iload C dL_law_1156 rfl ?_
  refine a_if_ne (tgt := 1173) C dL_law_1158 rfl (by unfold ii_B; omega) (fun hz => ?_) (fun hz => ?_)
  · skip
    refine a_goto (tgt := 2612) C dL_law_1173 rfl ?_
    refine a_pick [0, 1, 2, 3, 4, 5] (L2 := [(0, .ref bS), (1, .ref (ad2 0)), (2, .ref (ad2 40)), (3, .ref (ad2 90)), (4, .ref (ad2 91)), (5, ii_v ((i : Nat) : Int))]) rfl ?_
    exact K _ _ _ _ _ _ _ _ ⟨CL_k h4 m6, m5, hS2⟩ h6
  · have hk0 : kk = 0 := by omega
    subst hk0
    rw [if_pos rfl, ← hkv rfl]
    refine a_aload_n C dL_law_1161 rfl ?_
    refine a_iconst C dL_law_1162 ?_
    refine a_lald C dL_law_1163 ?_
    refine a_iload C dL_law_1164 rfl ?_
    refine a_i2l C dL_law_1166 ?_
    refine a_lcmpE C dL_law_1167 ?_
    refine a_if_eq (tgt := 1173) C dL_law_1168 rfl (by unfold ii_B; omega) (fun _ => ?_) (fun hz => absurd rfl hz)
    refine a_goto (tgt := 2612) C dL_law_1173 rfl ?_
    refine a_pick [0, 1, 2, 3, 4, 5] (L2 := [(0, .ref bS), (1, .ref (ad2 0)), (2, .ref (ad2 40)), (3, .ref (ad2 90)), (4, .ref (ad2 91)), (5, ii_v ((i : Nat) : Int))]) rfl ?_
    exact K _ _ _ _ _ _ _ _ ⟨CL_k h4 m6, m5, hS2⟩ h6
set_option maxHeartbeats 1000000 in
theorem lc_pickupTime {p : Program} {l : Launch} {e : Env} {s : State} {m : MethodId} {args : Array Value} {below : List Frame} {meth : Method} {c : Code} {E : ab_E} {base : Nat} {Q : State → Prop} (C : ab_C p l s m args meth c E base 8 RL cL_law (some .boolean)) (hl : l.stackTraces = false) (hN : ab_NC s) {bS Lx : Nat} {xs : Nat → Int32} (hX : va_X bS Lx xs s s.heap) (hbl : bS < s.heap.size) (hbA : ¬ ab_A base bS) (hLx : Lx ≤ 3072) {ad : Nat → Nat} {f a : Nat → Nat → Int} {TS : Nat → List Nat} {nb nr : Nat} {tm : Int} {vL : Int64} {vD : UInt64} {k n i : Nat} (hI : IS f a TS nb nr tm) (hi : i + 6 ≤ Lx) (hk : k + 4 ≤ 601024) (hn : n + 150 ≤ 7293034) (K : lw_K p l e s m args below meth c E base Q bS tm k n i) : ab_W p l e (ab_rm 20 601024 7293034) s m args below meth c E base 8 Q ab_x4 ad (f, nb, nr, vL, vD) k n 1176 [(0, .ref bS), (1, .ref (ad 0)), (2, .ref (ad 40)), (3, .ref (ad 90)), (4, .ref (ad 91)), (5, ii_v ((i : Nat) : Int))] [] := by
  obtain ⟨v1, e1⟩ : ∃ v : Int, v = (xs (i + 1)).toInt := ⟨_, rfl⟩
  have z1 : -2147483648 ≤ v1 ∧ v1 < 2147483648 := by rw [e1]; exact ii_Bof _
  obtain ⟨kk, u, v, a2, TS2, nb2, nr2, hS2, hkv, hkl, hZ, hMz⟩ := z_pickupTime (E := E) (base := base) (ad := ad) (ol := (vL, vD)) hl hI v1 z1
  have hkl : kk ≤ 2 := hkl
  refine a_aload_n C dL_law_1176 rfl ?_
  refine a_aload_n C dL_law_1177 rfl ?_
  refine a_iload C dL_law_1178 rfl ?_
  refine a_iconst C dL_law_1180 ?_
  refine a_iadd C dL_law_1181 ?_
  refine a_siald (j := i + 1) C hX hbl hbA (by omega) (by omega) (by omega) dL_law_1182 ?_
  rw [← e1]
  refine a_aload_n C dL_law_1183 rfl ?_
  refine a_callSH (As := [.ref (ad 0), ii_v v1, .ref (ad 90)]) C hN (w_pickupTime hl hkl hZ) co_L_pickupTime in_L ml_L_189 sc_L_pickupTime ar_L_pickupTime ⟨by decide, by decide, by omega, by omega⟩ rfl (Nat.le_of_ble_eq_true rfl) dL_law_1184 (fun ov x1 ad1 z1 hp => ?_) (fun X x1 ad1 z1 hp => by cases hp.2.2.1)
  obtain ⟨h1, h2, h3, h4, h5, h6⟩ := hp
  obtain ⟨g, w9⟩ := z1
  cases h3
  cases h2
  subst h1
  dsimp only at h4 h5
  rw [← h6 0 (by decide), ← h6 40 (by decide), ← h6 90 (by decide), ← h6 91 (by decide)]
  refine a_istore (L' := [(0, .ref bS), (1, .ref (ad1 0)), (2, .ref (ad1 40)), (3, .ref (ad1 90)), (4, .ref (ad1 91)), (5, ii_v ((i : Nat) : Int)), (6, ii_v ((kk : Nat) : Int))]) C dL_law_1187 (by decide) rfl ?_
  refine a_aload_n C dL_law_1189 rfl ?_
  refine a_aload_n C dL_law_1190 rfl ?_
  refine a_iload C dL_law_1191 rfl ?_
  refine a_iconst C dL_law_1193 ?_
  refine a_iadd C dL_law_1194 ?_
  refine a_siald (j := i + 1) C hX hbl hbA (by omega) (by omega) (by omega) dL_law_1195 ?_
  rw [← e1]
  obtain ⟨d2, Post2, hd2, hM2, hP2⟩ := hMz ad1 g _ h4 (ML_k hI.2.1 h5)
  refine a_callV (o := 40) (As := [ii_v v1]) C hM2 co_X10_pickupTime in_X10 ml_L_191 im_X10_pickupTime se_X10_pickupTime rfl rfl ar_X10_pickupTime ⟨by omega, by decide, by omega, by omega⟩ rfl (Nat.le_of_ble_eq_true rfl) dL_law_1196 (fun ov x1 ad2 z1 hp => ?_) (fun X x1 ad2 z1 hp => by cases (hP2 _ _ _ _ hp).2.2.2.1)
  obtain ⟨m1, m2, m3, m4, m5, m6, m7⟩ := hP2 _ _ _ _ hp
  obtain ⟨h, w9⟩ := z1
  cases m4
  cases m3
  subst m1 m2
  dsimp only at m5 m6 m7
  refine a_istore (L' := [(0, .ref bS), (1, .ref (ad2 0)), (2, .ref (ad2 40)), (3, .ref (ad2 90)), (4, .ref (ad2 91)), (5, ii_v ((i : Nat) : Int)), (6, ii_v ((kk : Nat) : Int)), (7, ii_v v)]) C dL_law_1199 (by decide) rfl ?_
  refine a_aload_n C dL_law_1201 rfl ?_
  refine a_callV (o := 40) (As := []) C (m_thrown hl h _) co_X10_thrown in_X10 ml_L_148 im_X10_thrown se_X10_thrown rfl rfl ar_X10_thrown ⟨by decide, by decide, by omega, by omega⟩ rfl (Nat.le_of_ble_eq_true rfl) dL_law_1202 (a_dR ?_) a_nR
  rw [m7]
  refine a_iload C dL_law_1205 rfl ?_
  refine a_icmp_eq (tgt := 1212) C dL_law_1207 rfl (by unfold ii_B; omega) (by unfold ii_B; omega) (fun _ => ?_) (fun hz => absurd rfl hz)
  refine a_iload C dL_law_1212 rfl ?_
  refine a_if_ne (tgt := 1229) C dL_law_1214 rfl (by unfold ii_B; omega) (fun hz => ?_) (fun hz => ?_)
  · skip
    refine a_goto (tgt := 2612) C dL_law_1229 rfl ?_
    refine a_pick [0, 1, 2, 3, 4, 5] (L2 := [(0, .ref bS), (1, .ref (ad2 0)), (2, .ref (ad2 40)), (3, .ref (ad2 90)), (4, .ref (ad2 91)), (5, ii_v ((i : Nat) : Int))]) rfl ?_
    exact K _ _ _ _ _ _ _ _ ⟨CL_k h4 m6, m5, hS2⟩ h6
  · have hk0 : kk = 0 := by omega
    subst hk0
    rw [if_pos rfl, ← hkv rfl]
    refine a_aload_n C dL_law_1217 rfl ?_
    refine a_iconst C dL_law_1218 ?_
    refine a_lald C dL_law_1219 ?_
    refine a_iload C dL_law_1220 rfl ?_
    refine a_i2l C dL_law_1222 ?_
    refine a_lcmpE C dL_law_1223 ?_
    refine a_if_eq (tgt := 1229) C dL_law_1224 rfl (by unfold ii_B; omega) (fun _ => ?_) (fun hz => absurd rfl hz)
    refine a_goto (tgt := 2612) C dL_law_1229 rfl ?_
    refine a_pick [0, 1, 2, 3, 4, 5] (L2 := [(0, .ref bS), (1, .ref (ad2 0)), (2, .ref (ad2 40)), (3, .ref (ad2 90)), (4, .ref (ad2 91)), (5, ii_v ((i : Nat) : Int))]) rfl ?_
    exact K _ _ _ _ _ _ _ _ ⟨CL_k h4 m6, m5, hS2⟩ h6
set_option maxHeartbeats 1000000 in
theorem lc_dropTime {p : Program} {l : Launch} {e : Env} {s : State} {m : MethodId} {args : Array Value} {below : List Frame} {meth : Method} {c : Code} {E : ab_E} {base : Nat} {Q : State → Prop} (C : ab_C p l s m args meth c E base 8 RL cL_law (some .boolean)) (hl : l.stackTraces = false) (hN : ab_NC s) {bS Lx : Nat} {xs : Nat → Int32} (hX : va_X bS Lx xs s s.heap) (hbl : bS < s.heap.size) (hbA : ¬ ab_A base bS) (hLx : Lx ≤ 3072) {ad : Nat → Nat} {f a : Nat → Nat → Int} {TS : Nat → List Nat} {nb nr : Nat} {tm : Int} {vL : Int64} {vD : UInt64} {k n i : Nat} (hI : IS f a TS nb nr tm) (hi : i + 6 ≤ Lx) (hk : k + 4 ≤ 601024) (hn : n + 150 ≤ 7293034) (K : lw_K p l e s m args below meth c E base Q bS tm k n i) : ab_W p l e (ab_rm 20 601024 7293034) s m args below meth c E base 8 Q ab_x4 ad (f, nb, nr, vL, vD) k n 1232 [(0, .ref bS), (1, .ref (ad 0)), (2, .ref (ad 40)), (3, .ref (ad 90)), (4, .ref (ad 91)), (5, ii_v ((i : Nat) : Int))] [] := by
  obtain ⟨v1, e1⟩ : ∃ v : Int, v = (xs (i + 1)).toInt := ⟨_, rfl⟩
  have z1 : -2147483648 ≤ v1 ∧ v1 < 2147483648 := by rw [e1]; exact ii_Bof _
  obtain ⟨kk, u, v, a2, TS2, nb2, nr2, hS2, hkv, hkl, hZ, hMz⟩ := z_dropTime (E := E) (base := base) (ad := ad) (ol := (vL, vD)) hl hI v1 z1
  have hkl : kk ≤ 2 := hkl
  refine a_aload_n C dL_law_1232 rfl ?_
  refine a_aload_n C dL_law_1233 rfl ?_
  refine a_iload C dL_law_1234 rfl ?_
  refine a_iconst C dL_law_1236 ?_
  refine a_iadd C dL_law_1237 ?_
  refine a_siald (j := i + 1) C hX hbl hbA (by omega) (by omega) (by omega) dL_law_1238 ?_
  rw [← e1]
  refine a_aload_n C dL_law_1239 rfl ?_
  refine a_callSH (As := [.ref (ad 0), ii_v v1, .ref (ad 90)]) C hN (w_dropTime hl hkl hZ) co_L_dropTime in_L ml_L_192 sc_L_dropTime ar_L_dropTime ⟨by decide, by decide, by omega, by omega⟩ rfl (Nat.le_of_ble_eq_true rfl) dL_law_1240 (fun ov x1 ad1 z1 hp => ?_) (fun X x1 ad1 z1 hp => by cases hp.2.2.1)
  obtain ⟨h1, h2, h3, h4, h5, h6⟩ := hp
  obtain ⟨g, w9⟩ := z1
  cases h3
  cases h2
  subst h1
  dsimp only at h4 h5
  rw [← h6 0 (by decide), ← h6 40 (by decide), ← h6 90 (by decide), ← h6 91 (by decide)]
  refine a_istore (L' := [(0, .ref bS), (1, .ref (ad1 0)), (2, .ref (ad1 40)), (3, .ref (ad1 90)), (4, .ref (ad1 91)), (5, ii_v ((i : Nat) : Int)), (6, ii_v ((kk : Nat) : Int))]) C dL_law_1243 (by decide) rfl ?_
  refine a_aload_n C dL_law_1245 rfl ?_
  refine a_aload_n C dL_law_1246 rfl ?_
  refine a_iload C dL_law_1247 rfl ?_
  refine a_iconst C dL_law_1249 ?_
  refine a_iadd C dL_law_1250 ?_
  refine a_siald (j := i + 1) C hX hbl hbA (by omega) (by omega) (by omega) dL_law_1251 ?_
  rw [← e1]
  obtain ⟨d2, Post2, hd2, hM2, hP2⟩ := hMz ad1 g _ h4 (ML_k hI.2.1 h5)
  refine a_callV (o := 40) (As := [ii_v v1]) C hM2 co_X10_dropTime in_X10 ml_L_194 im_X10_dropTime se_X10_dropTime rfl rfl ar_X10_dropTime ⟨by omega, by decide, by omega, by omega⟩ rfl (Nat.le_of_ble_eq_true rfl) dL_law_1252 (fun ov x1 ad2 z1 hp => ?_) (fun X x1 ad2 z1 hp => by cases (hP2 _ _ _ _ hp).2.2.2.1)
  obtain ⟨m1, m2, m3, m4, m5, m6, m7⟩ := hP2 _ _ _ _ hp
  obtain ⟨h, w9⟩ := z1
  cases m4
  cases m3
  subst m1 m2
  dsimp only at m5 m6 m7
  refine a_istore (L' := [(0, .ref bS), (1, .ref (ad2 0)), (2, .ref (ad2 40)), (3, .ref (ad2 90)), (4, .ref (ad2 91)), (5, ii_v ((i : Nat) : Int)), (6, ii_v ((kk : Nat) : Int)), (7, ii_v v)]) C dL_law_1255 (by decide) rfl ?_
  refine a_aload_n C dL_law_1257 rfl ?_
  refine a_callV (o := 40) (As := []) C (m_thrown hl h _) co_X10_thrown in_X10 ml_L_148 im_X10_thrown se_X10_thrown rfl rfl ar_X10_thrown ⟨by decide, by decide, by omega, by omega⟩ rfl (Nat.le_of_ble_eq_true rfl) dL_law_1258 (a_dR ?_) a_nR
  rw [m7]
  refine a_iload C dL_law_1261 rfl ?_
  refine a_icmp_eq (tgt := 1268) C dL_law_1263 rfl (by unfold ii_B; omega) (by unfold ii_B; omega) (fun _ => ?_) (fun hz => absurd rfl hz)
  refine a_iload C dL_law_1268 rfl ?_
  refine a_if_ne (tgt := 1285) C dL_law_1270 rfl (by unfold ii_B; omega) (fun hz => ?_) (fun hz => ?_)
  · skip
    refine a_goto (tgt := 2612) C dL_law_1285 rfl ?_
    refine a_pick [0, 1, 2, 3, 4, 5] (L2 := [(0, .ref bS), (1, .ref (ad2 0)), (2, .ref (ad2 40)), (3, .ref (ad2 90)), (4, .ref (ad2 91)), (5, ii_v ((i : Nat) : Int))]) rfl ?_
    exact K _ _ _ _ _ _ _ _ ⟨CL_k h4 m6, m5, hS2⟩ h6
  · have hk0 : kk = 0 := by omega
    subst hk0
    rw [if_pos rfl, ← hkv rfl]
    refine a_aload_n C dL_law_1273 rfl ?_
    refine a_iconst C dL_law_1274 ?_
    refine a_lald C dL_law_1275 ?_
    refine a_iload C dL_law_1276 rfl ?_
    refine a_i2l C dL_law_1278 ?_
    refine a_lcmpE C dL_law_1279 ?_
    refine a_if_eq (tgt := 1285) C dL_law_1280 rfl (by unfold ii_B; omega) (fun _ => ?_) (fun hz => absurd rfl hz)
    refine a_goto (tgt := 2612) C dL_law_1285 rfl ?_
    refine a_pick [0, 1, 2, 3, 4, 5] (L2 := [(0, .ref bS), (1, .ref (ad2 0)), (2, .ref (ad2 40)), (3, .ref (ad2 90)), (4, .ref (ad2 91)), (5, ii_v ((i : Nat) : Int))]) rfl ?_
    exact K _ _ _ _ _ _ _ _ ⟨CL_k h4 m6, m5, hS2⟩ h6
theorem lc_requests {p : Program} {l : Launch} {e : Env} {s : State} {m : MethodId} {args : Array Value} {below : List Frame} {meth : Method} {c : Code} {E : ab_E} {base : Nat} {Q : State → Prop} (C : ab_C p l s m args meth c E base 8 RL cL_law (some .boolean)) (hl : l.stackTraces = false) (hN : ab_NC s) {bS Lx : Nat} {xs : Nat → Int32} (hX : va_X bS Lx xs s s.heap) (hbl : bS < s.heap.size) (hbA : ¬ ab_A base bS) (hLx : Lx ≤ 3072) {ad : Nat → Nat} {f a : Nat → Nat → Int} {TS : Nat → List Nat} {nb nr : Nat} {tm : Int} {vL : Int64} {vD : UInt64} {k n i : Nat} (hI : IS f a TS nb nr tm) (hi : i + 6 ≤ Lx) (hk : k + 4 ≤ 601024) (hn : n + 150 ≤ 7293034) (K : lw_K p l e s m args below meth c E base Q bS tm k n i) : ab_W p l e (ab_rm 20 601024 7293034) s m args below meth c E base 8 Q ab_x4 ad (f, nb, nr, vL, vD) k n 1288 [(0, .ref bS), (1, .ref (ad 0)), (2, .ref (ad 40)), (3, .ref (ad 90)), (4, .ref (ad 91)), (5, ii_v ((i : Nat) : Int))] [] := by
  obtain ⟨hC, hL, hS, htm⟩ := hI
  have hB := hS.1
  have h30 := hB.2.1
  have h06 := hB.2.2.1
  obtain ⟨ne, hjo, hsl⟩ := hB.2.2.2.2.2.2.2.2.2
  refine a_aload_n C dL_law_1288 rfl ?_
  refine a_callV (o := 0) (As := []) C (c_requests hl f (nb, nr, vL, vD) h30) co_X9_requests in_X9 ml_L_195 im_X9_requests se_X9_requests rfl rfl ar_X9_requests ⟨by decide, by decide, by omega, by omega⟩ rfl (Nat.le_of_ble_eq_true rfl) dL_law_1289 (a_dR ?_) a_nR
  refine a_aload_n C dL_law_1292 rfl ?_
  refine a_callV (o := 40) (As := []) C (m_requests hl f (nb, nr, vL, vD)) co_X10_requests in_X10 ml_L_198 im_X10_requests se_X10_requests rfl rfl ar_X10_requests ⟨by decide, by decide, by omega, by omega⟩ rfl (Nat.le_of_ble_eq_true rfl) dL_law_1293 (a_dR ?_) a_nR
  rw [show f 40 30 = (nr : Int) from hL.1.1.2.1]
  refine a_icmp_eq (tgt := 2612) C dL_law_1296 rfl (by unfold ii_B; dsimp only; omega) (by unfold ii_B; omega) (fun _ => ?_) (fun hz => absurd rfl hz)
  refine ab_more (k2 := k + 4) (n2 := n + 150) (by omega) (by omega) ?_
  exact K _ _ _ _ _ _ _ _ ⟨CL_k hC (fun o ho => ii_up_row _ _ (by omega)), ML_0 hL (by decide), st_60 hS⟩ (fun _ _ => rfl)
set_option maxHeartbeats 1000000 in
theorem lc_stops {p : Program} {l : Launch} {e : Env} {s : State} {m : MethodId} {args : Array Value} {below : List Frame} {meth : Method} {c : Code} {E : ab_E} {base : Nat} {Q : State → Prop} (C : ab_C p l s m args meth c E base 8 RL cL_law (some .boolean)) (hl : l.stackTraces = false) (hN : ab_NC s) {bS Lx : Nat} {xs : Nat → Int32} (hX : va_X bS Lx xs s s.heap) (hbl : bS < s.heap.size) (hbA : ¬ ab_A base bS) (hLx : Lx ≤ 3072) {ad : Nat → Nat} {f a : Nat → Nat → Int} {TS : Nat → List Nat} {nb nr : Nat} {tm : Int} {vL : Int64} {vD : UInt64} {k n i : Nat} (hI : IS f a TS nb nr tm) (hi : i + 6 ≤ Lx) (hk : k + 4 ≤ 601024) (hn : n + 150 ≤ 7293034) (K : lw_K p l e s m args below meth c E base Q bS tm k n i) : ab_W p l e (ab_rm 20 601024 7293034) s m args below meth c E base 8 Q ab_x4 ad (f, nb, nr, vL, vD) k n 1301 [(0, .ref bS), (1, .ref (ad 0)), (2, .ref (ad 40)), (3, .ref (ad 90)), (4, .ref (ad 91)), (5, ii_v ((i : Nat) : Int))] [] := by
  obtain ⟨v1, e1⟩ : ∃ v : Int, v = (xs (i + 1)).toInt := ⟨_, rfl⟩
  have z1 : -2147483648 ≤ v1 ∧ v1 < 2147483648 := by rw [e1]; exact ii_Bof _
  obtain ⟨kk, u, v, a2, TS2, nb2, nr2, hS2, hkv, hkl, hZ, hMz⟩ := z_stops (E := E) (base := base) (ad := ad) (ol := (vL, vD)) hl hI v1 z1
  have hkl : kk ≤ 1 := hkl
  refine a_aload_n C dL_law_1301 rfl ?_
  refine a_aload_n C dL_law_1302 rfl ?_
  refine a_iload C dL_law_1303 rfl ?_
  refine a_iconst C dL_law_1305 ?_
  refine a_iadd C dL_law_1306 ?_
  refine a_siald (j := i + 1) C hX hbl hbA (by omega) (by omega) (by omega) dL_law_1307 ?_
  rw [← e1]
  refine a_aload_n C dL_law_1308 rfl ?_
  refine a_callSH (As := [.ref (ad 0), ii_v v1, .ref (ad 90)]) C hN (w_stops hl hkl hZ) co_L_stops in_L ml_L_199 sc_L_stops ar_L_stops ⟨by decide, by decide, by omega, by omega⟩ rfl (Nat.le_of_ble_eq_true rfl) dL_law_1309 (fun ov x1 ad1 z1 hp => ?_) (fun X x1 ad1 z1 hp => by cases hp.2.2.1)
  obtain ⟨h1, h2, h3, h4, h5, h6⟩ := hp
  obtain ⟨g, w9⟩ := z1
  cases h3
  cases h2
  subst h1
  dsimp only at h4 h5
  rw [← h6 0 (by decide), ← h6 40 (by decide), ← h6 90 (by decide), ← h6 91 (by decide)]
  refine a_istore (L' := [(0, .ref bS), (1, .ref (ad1 0)), (2, .ref (ad1 40)), (3, .ref (ad1 90)), (4, .ref (ad1 91)), (5, ii_v ((i : Nat) : Int)), (6, ii_v ((kk : Nat) : Int))]) C dL_law_1312 (by decide) rfl ?_
  refine a_aload_n C dL_law_1314 rfl ?_
  refine a_aload_n C dL_law_1315 rfl ?_
  refine a_iload C dL_law_1316 rfl ?_
  refine a_iconst C dL_law_1318 ?_
  refine a_iadd C dL_law_1319 ?_
  refine a_siald (j := i + 1) C hX hbl hbA (by omega) (by omega) (by omega) dL_law_1320 ?_
  rw [← e1]
  obtain ⟨d2, Post2, hd2, hM2, hP2⟩ := hMz ad1 g _ h4 (ML_k hI.2.1 h5)
  refine a_callV (o := 40) (As := [ii_v v1]) C hM2 co_X10_stops in_X10 ml_L_201 im_X10_stops se_X10_stops rfl rfl ar_X10_stops ⟨by omega, by decide, by omega, by omega⟩ rfl (Nat.le_of_ble_eq_true rfl) dL_law_1321 (fun ov x1 ad2 z1 hp => ?_) (fun X x1 ad2 z1 hp => by cases (hP2 _ _ _ _ hp).2.2.2.1)
  obtain ⟨m1, m2, m3, m4, m5, m6, m7⟩ := hP2 _ _ _ _ hp
  obtain ⟨h, w9⟩ := z1
  cases m4
  cases m3
  subst m1 m2
  dsimp only at m5 m6 m7
  refine a_istore (L' := [(0, .ref bS), (1, .ref (ad2 0)), (2, .ref (ad2 40)), (3, .ref (ad2 90)), (4, .ref (ad2 91)), (5, ii_v ((i : Nat) : Int)), (6, ii_v ((kk : Nat) : Int)), (7, ii_v v)]) C dL_law_1324 (by decide) rfl ?_
  refine a_aload_n C dL_law_1326 rfl ?_
  refine a_callV (o := 40) (As := []) C (m_thrown hl h _) co_X10_thrown in_X10 ml_L_148 im_X10_thrown se_X10_thrown rfl rfl ar_X10_thrown ⟨by decide, by decide, by omega, by omega⟩ rfl (Nat.le_of_ble_eq_true rfl) dL_law_1327 (a_dR ?_) a_nR
  rw [m7]
  refine a_iload C dL_law_1330 rfl ?_
  refine a_icmp_eq (tgt := 1337) C dL_law_1332 rfl (by unfold ii_B; omega) (by unfold ii_B; omega) (fun _ => ?_) (fun hz => absurd rfl hz)
  refine a_iload C dL_law_1337 rfl ?_
  refine a_if_ne (tgt := 1354) C dL_law_1339 rfl (by unfold ii_B; omega) (fun hz => ?_) (fun hz => ?_)
  · skip
    refine a_goto (tgt := 2612) C dL_law_1354 rfl ?_
    refine a_pick [0, 1, 2, 3, 4, 5] (L2 := [(0, .ref bS), (1, .ref (ad2 0)), (2, .ref (ad2 40)), (3, .ref (ad2 90)), (4, .ref (ad2 91)), (5, ii_v ((i : Nat) : Int))]) rfl ?_
    exact K _ _ _ _ _ _ _ _ ⟨CL_k h4 m6, m5, hS2⟩ h6
  · have hk0 : kk = 0 := by omega
    subst hk0
    rw [if_pos rfl, ← hkv rfl]
    refine a_aload_n C dL_law_1342 rfl ?_
    refine a_iconst C dL_law_1343 ?_
    refine a_lald C dL_law_1344 ?_
    refine a_iload C dL_law_1345 rfl ?_
    refine a_i2l C dL_law_1347 ?_
    refine a_lcmpE C dL_law_1348 ?_
    refine a_if_eq (tgt := 1354) C dL_law_1349 rfl (by unfold ii_B; omega) (fun _ => ?_) (fun hz => absurd rfl hz)
    refine a_goto (tgt := 2612) C dL_law_1354 rfl ?_
    refine a_pick [0, 1, 2, 3, 4, 5] (L2 := [(0, .ref bS), (1, .ref (ad2 0)), (2, .ref (ad2 40)), (3, .ref (ad2 90)), (4, .ref (ad2 91)), (5, ii_v ((i : Nat) : Int))]) rfl ?_
    exact K _ _ _ _ _ _ _ _ ⟨CL_k h4 m6, m5, hS2⟩ h6
set_option maxHeartbeats 1000000 in
theorem lc_stopRequest {p : Program} {l : Launch} {e : Env} {s : State} {m : MethodId} {args : Array Value} {below : List Frame} {meth : Method} {c : Code} {E : ab_E} {base : Nat} {Q : State → Prop} (C : ab_C p l s m args meth c E base 8 RL cL_law (some .boolean)) (hl : l.stackTraces = false) (hN : ab_NC s) {bS Lx : Nat} {xs : Nat → Int32} (hX : va_X bS Lx xs s s.heap) (hbl : bS < s.heap.size) (hbA : ¬ ab_A base bS) (hLx : Lx ≤ 3072) {ad : Nat → Nat} {f a : Nat → Nat → Int} {TS : Nat → List Nat} {nb nr : Nat} {tm : Int} {vL : Int64} {vD : UInt64} {k n i : Nat} (hI : IS f a TS nb nr tm) (hi : i + 6 ≤ Lx) (hk : k + 4 ≤ 601024) (hn : n + 150 ≤ 7293034) (K : lw_K p l e s m args below meth c E base Q bS tm k n i) : ab_W p l e (ab_rm 20 601024 7293034) s m args below meth c E base 8 Q ab_x4 ad (f, nb, nr, vL, vD) k n 1357 [(0, .ref bS), (1, .ref (ad 0)), (2, .ref (ad 40)), (3, .ref (ad 90)), (4, .ref (ad 91)), (5, ii_v ((i : Nat) : Int))] [] := by
  obtain ⟨v1, e1⟩ : ∃ v : Int, v = (xs (i + 1)).toInt := ⟨_, rfl⟩
  have z1 : -2147483648 ≤ v1 ∧ v1 < 2147483648 := by rw [e1]; exact ii_Bof _
  obtain ⟨v2, e2⟩ : ∃ v : Int, v = (xs (i + 2)).toInt := ⟨_, rfl⟩
  have z2 : -2147483648 ≤ v2 ∧ v2 < 2147483648 := by rw [e2]; exact ii_Bof _
  obtain ⟨kk, u, v, a2, TS2, nb2, nr2, hS2, hkv, hkl, hZ, hMz⟩ := z_stopRequest (E := E) (base := base) (ad := ad) (ol := (vL, vD)) hl hI v1 v2 z1 z2
  have hkl : kk ≤ 2 := hkl
  refine a_aload_n C dL_law_1357 rfl ?_
  refine a_aload_n C dL_law_1358 rfl ?_
  refine a_iload C dL_law_1359 rfl ?_
  refine a_iconst C dL_law_1361 ?_
  refine a_iadd C dL_law_1362 ?_
  refine a_siald (j := i + 1) C hX hbl hbA (by omega) (by omega) (by omega) dL_law_1363 ?_
  rw [← e1]
  refine a_aload_n C dL_law_1364 rfl ?_
  refine a_iload C dL_law_1365 rfl ?_
  refine a_iconst C dL_law_1367 ?_
  refine a_iadd C dL_law_1368 ?_
  refine a_siald (j := i + 2) C hX hbl hbA (by omega) (by omega) (by omega) dL_law_1369 ?_
  rw [← e2]
  refine a_aload_n C dL_law_1370 rfl ?_
  refine a_callSH (As := [.ref (ad 0), ii_v v1, ii_v v2, .ref (ad 90)]) C hN (w_stopRequest hl hkl hZ) co_L_stopRequest in_L ml_L_202 sc_L_stopRequest ar_L_stopRequest ⟨by decide, by decide, by omega, by omega⟩ rfl (Nat.le_of_ble_eq_true rfl) dL_law_1371 (fun ov x1 ad1 z1 hp => ?_) (fun X x1 ad1 z1 hp => by cases hp.2.2.1)
  obtain ⟨h1, h2, h3, h4, h5, h6⟩ := hp
  obtain ⟨g, w9⟩ := z1
  cases h3
  cases h2
  subst h1
  dsimp only at h4 h5
  rw [← h6 0 (by decide), ← h6 40 (by decide), ← h6 90 (by decide), ← h6 91 (by decide)]
  refine a_istore (L' := [(0, .ref bS), (1, .ref (ad1 0)), (2, .ref (ad1 40)), (3, .ref (ad1 90)), (4, .ref (ad1 91)), (5, ii_v ((i : Nat) : Int)), (6, ii_v ((kk : Nat) : Int))]) C dL_law_1374 (by decide) rfl ?_
  refine a_aload_n C dL_law_1376 rfl ?_
  refine a_aload_n C dL_law_1377 rfl ?_
  refine a_iload C dL_law_1378 rfl ?_
  refine a_iconst C dL_law_1380 ?_
  refine a_iadd C dL_law_1381 ?_
  refine a_siald (j := i + 1) C hX hbl hbA (by omega) (by omega) (by omega) dL_law_1382 ?_
  rw [← e1]
  refine a_aload_n C dL_law_1383 rfl ?_
  refine a_iload C dL_law_1384 rfl ?_
  refine a_iconst C dL_law_1386 ?_
  refine a_iadd C dL_law_1387 ?_
  refine a_siald (j := i + 2) C hX hbl hbA (by omega) (by omega) (by omega) dL_law_1388 ?_
  rw [← e2]
  obtain ⟨d2, Post2, hd2, hM2, hP2⟩ := hMz ad1 g _ h4 (ML_k hI.2.1 h5)
  refine a_callV (o := 40) (As := [ii_v v1, ii_v v2]) C hM2 co_X10_stopRequest in_X10 ml_L_205 im_X10_stopRequest se_X10_stopRequest rfl rfl ar_X10_stopRequest ⟨by omega, by decide, by omega, by omega⟩ rfl (Nat.le_of_ble_eq_true rfl) dL_law_1389 (fun ov x1 ad2 z1 hp => ?_) (fun X x1 ad2 z1 hp => by cases (hP2 _ _ _ _ hp).2.2.2.1)
  obtain ⟨m1, m2, m3, m4, m5, m6, m7⟩ := hP2 _ _ _ _ hp
  obtain ⟨h, w9⟩ := z1
  cases m4
  cases m3
  subst m1 m2
  dsimp only at m5 m6 m7
  refine a_istore (L' := [(0, .ref bS), (1, .ref (ad2 0)), (2, .ref (ad2 40)), (3, .ref (ad2 90)), (4, .ref (ad2 91)), (5, ii_v ((i : Nat) : Int)), (6, ii_v ((kk : Nat) : Int)), (7, ii_v v)]) C dL_law_1392 (by decide) rfl ?_
  refine a_aload_n C dL_law_1394 rfl ?_
  refine a_callV (o := 40) (As := []) C (m_thrown hl h _) co_X10_thrown in_X10 ml_L_148 im_X10_thrown se_X10_thrown rfl rfl ar_X10_thrown ⟨by decide, by decide, by omega, by omega⟩ rfl (Nat.le_of_ble_eq_true rfl) dL_law_1395 (a_dR ?_) a_nR
  rw [m7]
  refine a_iload C dL_law_1398 rfl ?_
  refine a_icmp_eq (tgt := 1405) C dL_law_1400 rfl (by unfold ii_B; omega) (by unfold ii_B; omega) (fun _ => ?_) (fun hz => absurd rfl hz)
  refine a_iload C dL_law_1405 rfl ?_
  refine a_if_ne (tgt := 1422) C dL_law_1407 rfl (by unfold ii_B; omega) (fun hz => ?_) (fun hz => ?_)
  · skip
    refine a_goto (tgt := 2612) C dL_law_1422 rfl ?_
    refine a_pick [0, 1, 2, 3, 4, 5] (L2 := [(0, .ref bS), (1, .ref (ad2 0)), (2, .ref (ad2 40)), (3, .ref (ad2 90)), (4, .ref (ad2 91)), (5, ii_v ((i : Nat) : Int))]) rfl ?_
    exact K _ _ _ _ _ _ _ _ ⟨CL_k h4 m6, m5, hS2⟩ h6
  · have hk0 : kk = 0 := by omega
    subst hk0
    rw [if_pos rfl, ← hkv rfl]
    refine a_aload_n C dL_law_1410 rfl ?_
    refine a_iconst C dL_law_1411 ?_
    refine a_lald C dL_law_1412 ?_
    refine a_iload C dL_law_1413 rfl ?_
    refine a_i2l C dL_law_1415 ?_
    refine a_lcmpE C dL_law_1416 ?_
    refine a_if_eq (tgt := 1422) C dL_law_1417 rfl (by unfold ii_B; omega) (fun _ => ?_) (fun hz => absurd rfl hz)
    refine a_goto (tgt := 2612) C dL_law_1422 rfl ?_
    refine a_pick [0, 1, 2, 3, 4, 5] (L2 := [(0, .ref bS), (1, .ref (ad2 0)), (2, .ref (ad2 40)), (3, .ref (ad2 90)), (4, .ref (ad2 91)), (5, ii_v ((i : Nat) : Int))]) rfl ?_
    exact K _ _ _ _ _ _ _ _ ⟨CL_k h4 m6, m5, hS2⟩ h6
set_option maxHeartbeats 1000000 in
theorem lc_stopTime {p : Program} {l : Launch} {e : Env} {s : State} {m : MethodId} {args : Array Value} {below : List Frame} {meth : Method} {c : Code} {E : ab_E} {base : Nat} {Q : State → Prop} (C : ab_C p l s m args meth c E base 8 RL cL_law (some .boolean)) (hl : l.stackTraces = false) (hN : ab_NC s) {bS Lx : Nat} {xs : Nat → Int32} (hX : va_X bS Lx xs s s.heap) (hbl : bS < s.heap.size) (hbA : ¬ ab_A base bS) (hLx : Lx ≤ 3072) {ad : Nat → Nat} {f a : Nat → Nat → Int} {TS : Nat → List Nat} {nb nr : Nat} {tm : Int} {vL : Int64} {vD : UInt64} {k n i : Nat} (hI : IS f a TS nb nr tm) (hi : i + 6 ≤ Lx) (hk : k + 4 ≤ 601024) (hn : n + 150 ≤ 7293034) (K : lw_K p l e s m args below meth c E base Q bS tm k n i) : ab_W p l e (ab_rm 20 601024 7293034) s m args below meth c E base 8 Q ab_x4 ad (f, nb, nr, vL, vD) k n 1500 [(0, .ref bS), (1, .ref (ad 0)), (2, .ref (ad 40)), (3, .ref (ad 90)), (4, .ref (ad 91)), (5, ii_v ((i : Nat) : Int))] [] := by
  obtain ⟨v1, e1⟩ : ∃ v : Int, v = (xs (i + 1)).toInt := ⟨_, rfl⟩
  have z1 : -2147483648 ≤ v1 ∧ v1 < 2147483648 := by rw [e1]; exact ii_Bof _
  obtain ⟨v2, e2⟩ : ∃ v : Int, v = (xs (i + 2)).toInt := ⟨_, rfl⟩
  have z2 : -2147483648 ≤ v2 ∧ v2 < 2147483648 := by rw [e2]; exact ii_Bof _
  obtain ⟨kk, u, v, a2, TS2, nb2, nr2, hS2, hkv, hkl, hZ, hMz⟩ := z_stopTime (E := E) (base := base) (ad := ad) (ol := (vL, vD)) hl hI v1 v2 z1 z2
  have hkl : kk ≤ 2 := hkl
  refine a_aload_n C dL_law_1500 rfl ?_
  refine a_aload_n C dL_law_1501 rfl ?_
  refine a_iload C dL_law_1502 rfl ?_
  refine a_iconst C dL_law_1504 ?_
  refine a_iadd C dL_law_1505 ?_
  refine a_siald (j := i + 1) C hX hbl hbA (by omega) (by omega) (by omega) dL_law_1506 ?_
  rw [← e1]
  refine a_aload_n C dL_law_1507 rfl ?_
  refine a_iload C dL_law_1508 rfl ?_
  refine a_iconst C dL_law_1510 ?_
  refine a_iadd C dL_law_1511 ?_
  refine a_siald (j := i + 2) C hX hbl hbA (by omega) (by omega) (by omega) dL_law_1512 ?_
  rw [← e2]
  refine a_aload_n C dL_law_1513 rfl ?_
  refine a_callSH (As := [.ref (ad 0), ii_v v1, ii_v v2, .ref (ad 90)]) C hN (w_stopTime hl hkl hZ) co_L_stopTime in_L ml_L_209 sc_L_stopTime ar_L_stopTime ⟨by decide, by decide, by omega, by omega⟩ rfl (Nat.le_of_ble_eq_true rfl) dL_law_1514 (fun ov x1 ad1 z1 hp => ?_) (fun X x1 ad1 z1 hp => by cases hp.2.2.1)
  obtain ⟨h1, h2, h3, h4, h5, h6⟩ := hp
  obtain ⟨g, w9⟩ := z1
  cases h3
  cases h2
  subst h1
  dsimp only at h4 h5
  rw [← h6 0 (by decide), ← h6 40 (by decide), ← h6 90 (by decide), ← h6 91 (by decide)]
  refine a_istore (L' := [(0, .ref bS), (1, .ref (ad1 0)), (2, .ref (ad1 40)), (3, .ref (ad1 90)), (4, .ref (ad1 91)), (5, ii_v ((i : Nat) : Int)), (6, ii_v ((kk : Nat) : Int))]) C dL_law_1517 (by decide) rfl ?_
  refine a_aload_n C dL_law_1519 rfl ?_
  refine a_aload_n C dL_law_1520 rfl ?_
  refine a_iload C dL_law_1521 rfl ?_
  refine a_iconst C dL_law_1523 ?_
  refine a_iadd C dL_law_1524 ?_
  refine a_siald (j := i + 1) C hX hbl hbA (by omega) (by omega) (by omega) dL_law_1525 ?_
  rw [← e1]
  refine a_aload_n C dL_law_1526 rfl ?_
  refine a_iload C dL_law_1527 rfl ?_
  refine a_iconst C dL_law_1529 ?_
  refine a_iadd C dL_law_1530 ?_
  refine a_siald (j := i + 2) C hX hbl hbA (by omega) (by omega) (by omega) dL_law_1531 ?_
  rw [← e2]
  obtain ⟨d2, Post2, hd2, hM2, hP2⟩ := hMz ad1 g _ h4 (ML_k hI.2.1 h5)
  refine a_callV (o := 40) (As := [ii_v v1, ii_v v2]) C hM2 co_X10_stopTime in_X10 ml_L_211 im_X10_stopTime se_X10_stopTime rfl rfl ar_X10_stopTime ⟨by omega, by decide, by omega, by omega⟩ rfl (Nat.le_of_ble_eq_true rfl) dL_law_1532 (fun ov x1 ad2 z1 hp => ?_) (fun X x1 ad2 z1 hp => by cases (hP2 _ _ _ _ hp).2.2.2.1)
  obtain ⟨m1, m2, m3, m4, m5, m6, m7⟩ := hP2 _ _ _ _ hp
  obtain ⟨h, w9⟩ := z1
  cases m4
  cases m3
  subst m1 m2
  dsimp only at m5 m6 m7
  refine a_istore (L' := [(0, .ref bS), (1, .ref (ad2 0)), (2, .ref (ad2 40)), (3, .ref (ad2 90)), (4, .ref (ad2 91)), (5, ii_v ((i : Nat) : Int)), (6, ii_v ((kk : Nat) : Int)), (7, ii_v v)]) C dL_law_1535 (by decide) rfl ?_
  refine a_aload_n C dL_law_1537 rfl ?_
  refine a_callV (o := 40) (As := []) C (m_thrown hl h _) co_X10_thrown in_X10 ml_L_148 im_X10_thrown se_X10_thrown rfl rfl ar_X10_thrown ⟨by decide, by decide, by omega, by omega⟩ rfl (Nat.le_of_ble_eq_true rfl) dL_law_1538 (a_dR ?_) a_nR
  rw [m7]
  refine a_iload C dL_law_1541 rfl ?_
  refine a_icmp_eq (tgt := 1548) C dL_law_1543 rfl (by unfold ii_B; omega) (by unfold ii_B; omega) (fun _ => ?_) (fun hz => absurd rfl hz)
  refine a_iload C dL_law_1548 rfl ?_
  refine a_if_ne (tgt := 1565) C dL_law_1550 rfl (by unfold ii_B; omega) (fun hz => ?_) (fun hz => ?_)
  · skip
    refine a_goto (tgt := 2612) C dL_law_1565 rfl ?_
    refine a_pick [0, 1, 2, 3, 4, 5] (L2 := [(0, .ref bS), (1, .ref (ad2 0)), (2, .ref (ad2 40)), (3, .ref (ad2 90)), (4, .ref (ad2 91)), (5, ii_v ((i : Nat) : Int))]) rfl ?_
    exact K _ _ _ _ _ _ _ _ ⟨CL_k h4 m6, m5, hS2⟩ h6
  · have hk0 : kk = 0 := by omega
    subst hk0
    rw [if_pos rfl, ← hkv rfl]
    refine a_aload_n C dL_law_1553 rfl ?_
    refine a_iconst C dL_law_1554 ?_
    refine a_lald C dL_law_1555 ?_
    refine a_iload C dL_law_1556 rfl ?_
    refine a_i2l C dL_law_1558 ?_
    refine a_lcmpE C dL_law_1559 ?_
    refine a_if_eq (tgt := 1565) C dL_law_1560 rfl (by unfold ii_B; omega) (fun _ => ?_) (fun hz => absurd rfl hz)
    refine a_goto (tgt := 2612) C dL_law_1565 rfl ?_
    refine a_pick [0, 1, 2, 3, 4, 5] (L2 := [(0, .ref bS), (1, .ref (ad2 0)), (2, .ref (ad2 40)), (3, .ref (ad2 90)), (4, .ref (ad2 91)), (5, ii_v ((i : Nat) : Int))]) rfl ?_
    exact K _ _ _ _ _ _ _ _ ⟨CL_k h4 m6, m5, hS2⟩ h6
set_option maxHeartbeats 1000000 in
theorem lc_length {p : Program} {l : Launch} {e : Env} {s : State} {m : MethodId} {args : Array Value} {below : List Frame} {meth : Method} {c : Code} {E : ab_E} {base : Nat} {Q : State → Prop} (C : ab_C p l s m args meth c E base 8 RL cL_law (some .boolean)) (hl : l.stackTraces = false) (hN : ab_NC s) {bS Lx : Nat} {xs : Nat → Int32} (hX : va_X bS Lx xs s s.heap) (hbl : bS < s.heap.size) (hbA : ¬ ab_A base bS) (hLx : Lx ≤ 3072) {ad : Nat → Nat} {f a : Nat → Nat → Int} {TS : Nat → List Nat} {nb nr : Nat} {tm : Int} {vL : Int64} {vD : UInt64} {k n i : Nat} (hI : IS f a TS nb nr tm) (hi : i + 6 ≤ Lx) (hk : k + 4 ≤ 601024) (hn : n + 150 ≤ 7293034) (K : lw_K p l e s m args below meth c E base Q bS tm k n i) : ab_W p l e (ab_rm 20 601024 7293034) s m args below meth c E base 8 Q ab_x4 ad (f, nb, nr, vL, vD) k n 1568 [(0, .ref bS), (1, .ref (ad 0)), (2, .ref (ad 40)), (3, .ref (ad 90)), (4, .ref (ad 91)), (5, ii_v ((i : Nat) : Int))] [] := by
  obtain ⟨v1, e1⟩ : ∃ v : Int, v = (xs (i + 1)).toInt := ⟨_, rfl⟩
  have z1 : -2147483648 ≤ v1 ∧ v1 < 2147483648 := by rw [e1]; exact ii_Bof _
  obtain ⟨kk, u, v, a2, TS2, nb2, nr2, hS2, hkv, hkl, hZ, hMz⟩ := z_length (E := E) (base := base) (ad := ad) (ol := (vL, vD)) hl hI v1 z1
  have hkl : kk ≤ 1 := hkl
  refine a_aload_n C dL_law_1568 rfl ?_
  refine a_aload_n C dL_law_1569 rfl ?_
  refine a_iload C dL_law_1570 rfl ?_
  refine a_iconst C dL_law_1572 ?_
  refine a_iadd C dL_law_1573 ?_
  refine a_siald (j := i + 1) C hX hbl hbA (by omega) (by omega) (by omega) dL_law_1574 ?_
  rw [← e1]
  refine a_aload_n C dL_law_1575 rfl ?_
  refine a_callSH (As := [.ref (ad 0), ii_v v1, .ref (ad 90)]) C hN (w_length hl hkl hZ) co_L_length in_L ml_L_212 sc_L_length ar_L_length ⟨by decide, by decide, by omega, by omega⟩ rfl (Nat.le_of_ble_eq_true rfl) dL_law_1576 (fun ov x1 ad1 z1 hp => ?_) (fun X x1 ad1 z1 hp => by cases hp.2.2.1)
  obtain ⟨h1, h2, h3, h4, h5, h6⟩ := hp
  obtain ⟨g, w9⟩ := z1
  cases h3
  cases h2
  subst h1
  dsimp only at h4 h5
  rw [← h6 0 (by decide), ← h6 40 (by decide), ← h6 90 (by decide), ← h6 91 (by decide)]
  refine a_istore (L' := [(0, .ref bS), (1, .ref (ad1 0)), (2, .ref (ad1 40)), (3, .ref (ad1 90)), (4, .ref (ad1 91)), (5, ii_v ((i : Nat) : Int)), (6, ii_v ((kk : Nat) : Int))]) C dL_law_1579 (by decide) rfl ?_
  refine a_aload_n C dL_law_1581 rfl ?_
  refine a_aload_n C dL_law_1582 rfl ?_
  refine a_iload C dL_law_1583 rfl ?_
  refine a_iconst C dL_law_1585 ?_
  refine a_iadd C dL_law_1586 ?_
  refine a_siald (j := i + 1) C hX hbl hbA (by omega) (by omega) (by omega) dL_law_1587 ?_
  rw [← e1]
  obtain ⟨d2, Post2, hd2, hM2, hP2⟩ := hMz ad1 g _ h4 (ML_k hI.2.1 h5)
  refine a_callV (o := 40) (As := [ii_v v1]) C hM2 co_X10_length in_X10 ml_L_214 im_X10_length se_X10_length rfl rfl ar_X10_length ⟨by omega, by decide, by omega, by omega⟩ rfl (Nat.le_of_ble_eq_true rfl) dL_law_1588 (fun ov x1 ad2 z1 hp => ?_) (fun X x1 ad2 z1 hp => by cases (hP2 _ _ _ _ hp).2.2.2.1)
  obtain ⟨m1, m2, m3, m4, m5, m6, m7⟩ := hP2 _ _ _ _ hp
  obtain ⟨h, w9⟩ := z1
  cases m4
  cases m3
  subst m1 m2
  dsimp only at m5 m6 m7
  refine a_istore (L' := [(0, .ref bS), (1, .ref (ad2 0)), (2, .ref (ad2 40)), (3, .ref (ad2 90)), (4, .ref (ad2 91)), (5, ii_v ((i : Nat) : Int)), (6, ii_v ((kk : Nat) : Int)), (7, ii_v v)]) C dL_law_1591 (by decide) rfl ?_
  refine a_aload_n C dL_law_1593 rfl ?_
  refine a_callV (o := 40) (As := []) C (m_thrown hl h _) co_X10_thrown in_X10 ml_L_148 im_X10_thrown se_X10_thrown rfl rfl ar_X10_thrown ⟨by decide, by decide, by omega, by omega⟩ rfl (Nat.le_of_ble_eq_true rfl) dL_law_1594 (a_dR ?_) a_nR
  rw [m7]
  refine a_iload C dL_law_1597 rfl ?_
  refine a_icmp_eq (tgt := 1604) C dL_law_1599 rfl (by unfold ii_B; omega) (by unfold ii_B; omega) (fun _ => ?_) (fun hz => absurd rfl hz)
  refine a_iload C dL_law_1604 rfl ?_
  refine a_if_ne (tgt := 1621) C dL_law_1606 rfl (by unfold ii_B; omega) (fun hz => ?_) (fun hz => ?_)
  · skip
    refine a_goto (tgt := 2612) C dL_law_1621 rfl ?_
    refine a_pick [0, 1, 2, 3, 4, 5] (L2 := [(0, .ref bS), (1, .ref (ad2 0)), (2, .ref (ad2 40)), (3, .ref (ad2 90)), (4, .ref (ad2 91)), (5, ii_v ((i : Nat) : Int))]) rfl ?_
    exact K _ _ _ _ _ _ _ _ ⟨CL_k h4 m6, m5, hS2⟩ h6
  · have hk0 : kk = 0 := by omega
    subst hk0
    rw [if_pos rfl, ← hkv rfl]
    refine a_aload_n C dL_law_1609 rfl ?_
    refine a_iconst C dL_law_1610 ?_
    refine a_lald C dL_law_1611 ?_
    refine a_iload C dL_law_1612 rfl ?_
    refine a_i2l C dL_law_1614 ?_
    refine a_lcmpE C dL_law_1615 ?_
    refine a_if_eq (tgt := 1621) C dL_law_1616 rfl (by unfold ii_B; omega) (fun _ => ?_) (fun hz => absurd rfl hz)
    refine a_goto (tgt := 2612) C dL_law_1621 rfl ?_
    refine a_pick [0, 1, 2, 3, 4, 5] (L2 := [(0, .ref bS), (1, .ref (ad2 0)), (2, .ref (ad2 40)), (3, .ref (ad2 90)), (4, .ref (ad2 91)), (5, ii_v ((i : Nat) : Int))]) rfl ?_
    exact K _ _ _ _ _ _ _ _ ⟨CL_k h4 m6, m5, hS2⟩ h6
set_option maxHeartbeats 1000000 in
theorem lc_bestLength {p : Program} {l : Launch} {e : Env} {s : State} {m : MethodId} {args : Array Value} {below : List Frame} {meth : Method} {c : Code} {E : ab_E} {base : Nat} {Q : State → Prop} (C : ab_C p l s m args meth c E base 8 RL cL_law (some .boolean)) (hl : l.stackTraces = false) (hN : ab_NC s) {bS Lx : Nat} {xs : Nat → Int32} (hX : va_X bS Lx xs s s.heap) (hbl : bS < s.heap.size) (hbA : ¬ ab_A base bS) (hLx : Lx ≤ 3072) {ad : Nat → Nat} {f a : Nat → Nat → Int} {TS : Nat → List Nat} {nb nr : Nat} {tm : Int} {vL : Int64} {vD : UInt64} {k n i : Nat} (hI : IS f a TS nb nr tm) (hi : i + 6 ≤ Lx) (hk : k + 4 ≤ 601024) (hn : n + 150 ≤ 7293034) (K : lw_K p l e s m args below meth c E base Q bS tm k n i) : ab_W p l e (ab_rm 20 601024 7293034) s m args below meth c E base 8 Q ab_x4 ad (f, nb, nr, vL, vD) k n 1624 [(0, .ref bS), (1, .ref (ad 0)), (2, .ref (ad 40)), (3, .ref (ad 90)), (4, .ref (ad 91)), (5, ii_v ((i : Nat) : Int))] [] := by
  obtain ⟨v1, e1⟩ : ∃ v : Int, v = (xs (i + 1)).toInt := ⟨_, rfl⟩
  have z1 : -2147483648 ≤ v1 ∧ v1 < 2147483648 := by rw [e1]; exact ii_Bof _
  obtain ⟨kk, u, v, a2, TS2, nb2, nr2, hS2, hkv, hkl, hZ, hMz⟩ := z_bestLength (E := E) (base := base) (ad := ad) (ol := (vL, vD)) hl hI v1 z1
  have hkl : kk ≤ 1 := hkl
  refine a_aload_n C dL_law_1624 rfl ?_
  refine a_aload_n C dL_law_1625 rfl ?_
  refine a_iload C dL_law_1626 rfl ?_
  refine a_iconst C dL_law_1628 ?_
  refine a_iadd C dL_law_1629 ?_
  refine a_siald (j := i + 1) C hX hbl hbA (by omega) (by omega) (by omega) dL_law_1630 ?_
  rw [← e1]
  refine a_aload_n C dL_law_1631 rfl ?_
  refine a_callSH (As := [.ref (ad 0), ii_v v1, .ref (ad 90)]) C hN (w_bestLength hl hkl hZ) co_L_bestLength in_L ml_L_215 sc_L_bestLength ar_L_bestLength ⟨by decide, by decide, by omega, by omega⟩ rfl (Nat.le_of_ble_eq_true rfl) dL_law_1632 (fun ov x1 ad1 z1 hp => ?_) (fun X x1 ad1 z1 hp => by cases hp.2.2.1)
  obtain ⟨h1, h2, h3, h4, h5, h6⟩ := hp
  obtain ⟨g, w9⟩ := z1
  cases h3
  cases h2
  subst h1
  dsimp only at h4 h5
  rw [← h6 0 (by decide), ← h6 40 (by decide), ← h6 90 (by decide), ← h6 91 (by decide)]
  refine a_istore (L' := [(0, .ref bS), (1, .ref (ad1 0)), (2, .ref (ad1 40)), (3, .ref (ad1 90)), (4, .ref (ad1 91)), (5, ii_v ((i : Nat) : Int)), (6, ii_v ((kk : Nat) : Int))]) C dL_law_1635 (by decide) rfl ?_
  refine a_aload_n C dL_law_1637 rfl ?_
  refine a_aload_n C dL_law_1638 rfl ?_
  refine a_iload C dL_law_1639 rfl ?_
  refine a_iconst C dL_law_1641 ?_
  refine a_iadd C dL_law_1642 ?_
  refine a_siald (j := i + 1) C hX hbl hbA (by omega) (by omega) (by omega) dL_law_1643 ?_
  rw [← e1]
  obtain ⟨d2, Post2, hd2, hM2, hP2⟩ := hMz ad1 g _ h4 (ML_k hI.2.1 h5)
  refine a_callV (o := 40) (As := [ii_v v1]) C hM2 co_X10_bestLength in_X10 ml_L_217 im_X10_bestLength se_X10_bestLength rfl rfl ar_X10_bestLength ⟨by omega, by decide, by omega, by omega⟩ rfl (Nat.le_of_ble_eq_true rfl) dL_law_1644 (fun ov x1 ad2 z1 hp => ?_) (fun X x1 ad2 z1 hp => by cases (hP2 _ _ _ _ hp).2.2.2.1)
  obtain ⟨m1, m2, m3, m4, m5, m6, m7⟩ := hP2 _ _ _ _ hp
  obtain ⟨h, w9⟩ := z1
  cases m4
  cases m3
  subst m1 m2
  dsimp only at m5 m6 m7
  refine a_istore (L' := [(0, .ref bS), (1, .ref (ad2 0)), (2, .ref (ad2 40)), (3, .ref (ad2 90)), (4, .ref (ad2 91)), (5, ii_v ((i : Nat) : Int)), (6, ii_v ((kk : Nat) : Int)), (7, ii_v v)]) C dL_law_1647 (by decide) rfl ?_
  refine a_aload_n C dL_law_1649 rfl ?_
  refine a_callV (o := 40) (As := []) C (m_thrown hl h _) co_X10_thrown in_X10 ml_L_148 im_X10_thrown se_X10_thrown rfl rfl ar_X10_thrown ⟨by decide, by decide, by omega, by omega⟩ rfl (Nat.le_of_ble_eq_true rfl) dL_law_1650 (a_dR ?_) a_nR
  rw [m7]
  refine a_iload C dL_law_1653 rfl ?_
  refine a_icmp_eq (tgt := 1660) C dL_law_1655 rfl (by unfold ii_B; omega) (by unfold ii_B; omega) (fun _ => ?_) (fun hz => absurd rfl hz)
  refine a_iload C dL_law_1660 rfl ?_
  refine a_if_ne (tgt := 1677) C dL_law_1662 rfl (by unfold ii_B; omega) (fun hz => ?_) (fun hz => ?_)
  · skip
    refine a_goto (tgt := 2612) C dL_law_1677 rfl ?_
    refine a_pick [0, 1, 2, 3, 4, 5] (L2 := [(0, .ref bS), (1, .ref (ad2 0)), (2, .ref (ad2 40)), (3, .ref (ad2 90)), (4, .ref (ad2 91)), (5, ii_v ((i : Nat) : Int))]) rfl ?_
    exact K _ _ _ _ _ _ _ _ ⟨CL_k h4 m6, m5, hS2⟩ h6
  · have hk0 : kk = 0 := by omega
    subst hk0
    rw [if_pos rfl, ← hkv rfl]
    refine a_aload_n C dL_law_1665 rfl ?_
    refine a_iconst C dL_law_1666 ?_
    refine a_lald C dL_law_1667 ?_
    refine a_iload C dL_law_1668 rfl ?_
    refine a_i2l C dL_law_1670 ?_
    refine a_lcmpE C dL_law_1671 ?_
    refine a_if_eq (tgt := 1677) C dL_law_1672 rfl (by unfold ii_B; omega) (fun _ => ?_) (fun hz => absurd rfl hz)
    refine a_goto (tgt := 2612) C dL_law_1677 rfl ?_
    refine a_pick [0, 1, 2, 3, 4, 5] (L2 := [(0, .ref bS), (1, .ref (ad2 0)), (2, .ref (ad2 40)), (3, .ref (ad2 90)), (4, .ref (ad2 91)), (5, ii_v ((i : Nat) : Int))]) rfl ?_
    exact K _ _ _ _ _ _ _ _ ⟨CL_k h4 m6, m5, hS2⟩ h6
set_option maxHeartbeats 1000000 in
theorem lc_bestLengthByTrying {p : Program} {l : Launch} {e : Env} {s : State} {m : MethodId} {args : Array Value} {below : List Frame} {meth : Method} {c : Code} {E : ab_E} {base : Nat} {Q : State → Prop} (C : ab_C p l s m args meth c E base 8 RL cL_law (some .boolean)) (hl : l.stackTraces = false) (hN : ab_NC s) {bS Lx : Nat} {xs : Nat → Int32} (hX : va_X bS Lx xs s s.heap) (hbl : bS < s.heap.size) (hbA : ¬ ab_A base bS) (hLx : Lx ≤ 3072) {ad : Nat → Nat} {f a : Nat → Nat → Int} {TS : Nat → List Nat} {nb nr : Nat} {tm : Int} {vL : Int64} {vD : UInt64} {k n i : Nat} (hI : IS f a TS nb nr tm) (hi : i + 6 ≤ Lx) (hk : k + 4 ≤ 601024) (hn : n + 150 ≤ 7293034) (K : lw_K p l e s m args below meth c E base Q bS tm k n i) : ab_W p l e (ab_rm 20 601024 7293034) s m args below meth c E base 8 Q ab_x4 ad (f, nb, nr, vL, vD) k n 1680 [(0, .ref bS), (1, .ref (ad 0)), (2, .ref (ad 40)), (3, .ref (ad 90)), (4, .ref (ad 91)), (5, ii_v ((i : Nat) : Int))] [] := by
  obtain ⟨v1, e1⟩ : ∃ v : Int, v = (xs (i + 1)).toInt := ⟨_, rfl⟩
  have z1 : -2147483648 ≤ v1 ∧ v1 < 2147483648 := by rw [e1]; exact ii_Bof _
  obtain ⟨kk, u, v, a2, TS2, nb2, nr2, hS2, hkv, hkl, hZ, hMz⟩ := z_bestLengthByTrying (E := E) (base := base) (ad := ad) (ol := (vL, vD)) hl hI v1 z1
  have hkl : kk ≤ 1 := hkl
  refine a_aload_n C dL_law_1680 rfl ?_
  refine a_aload_n C dL_law_1681 rfl ?_
  refine a_iload C dL_law_1682 rfl ?_
  refine a_iconst C dL_law_1684 ?_
  refine a_iadd C dL_law_1685 ?_
  refine a_siald (j := i + 1) C hX hbl hbA (by omega) (by omega) (by omega) dL_law_1686 ?_
  rw [← e1]
  refine a_aload_n C dL_law_1687 rfl ?_
  refine a_callSH (As := [.ref (ad 0), ii_v v1, .ref (ad 90)]) C hN (w_bestLengthByTrying hl hkl hZ) co_L_bestLengthByTrying in_L ml_L_218 sc_L_bestLengthByTrying ar_L_bestLengthByTrying ⟨by decide, by decide, by omega, by omega⟩ rfl (Nat.le_of_ble_eq_true rfl) dL_law_1688 (fun ov x1 ad1 z1 hp => ?_) (fun X x1 ad1 z1 hp => by cases hp.2.2.1)
  obtain ⟨h1, h2, h3, h4, h5, h6⟩ := hp
  obtain ⟨g, w9⟩ := z1
  cases h3
  cases h2
  subst h1
  dsimp only at h4 h5
  rw [← h6 0 (by decide), ← h6 40 (by decide), ← h6 90 (by decide), ← h6 91 (by decide)]
  refine a_istore (L' := [(0, .ref bS), (1, .ref (ad1 0)), (2, .ref (ad1 40)), (3, .ref (ad1 90)), (4, .ref (ad1 91)), (5, ii_v ((i : Nat) : Int)), (6, ii_v ((kk : Nat) : Int))]) C dL_law_1691 (by decide) rfl ?_
  refine a_aload_n C dL_law_1693 rfl ?_
  refine a_aload_n C dL_law_1694 rfl ?_
  refine a_iload C dL_law_1695 rfl ?_
  refine a_iconst C dL_law_1697 ?_
  refine a_iadd C dL_law_1698 ?_
  refine a_siald (j := i + 1) C hX hbl hbA (by omega) (by omega) (by omega) dL_law_1699 ?_
  rw [← e1]
  obtain ⟨d2, Post2, hd2, hM2, hP2⟩ := hMz ad1 g _ h4 (ML_k hI.2.1 h5)
  refine a_callV (o := 40) (As := [ii_v v1]) C hM2 co_X10_bestLengthByTrying in_X10 ml_L_220 im_X10_bestLengthByTrying se_X10_bestLengthByTrying rfl rfl ar_X10_bestLengthByTrying ⟨by omega, by decide, by omega, by omega⟩ rfl (Nat.le_of_ble_eq_true rfl) dL_law_1700 (fun ov x1 ad2 z1 hp => ?_) (fun X x1 ad2 z1 hp => by cases (hP2 _ _ _ _ hp).2.2.2.1)
  obtain ⟨m1, m2, m3, m4, m5, m6, m7⟩ := hP2 _ _ _ _ hp
  obtain ⟨h, w9⟩ := z1
  cases m4
  cases m3
  subst m1 m2
  dsimp only at m5 m6 m7
  refine a_istore (L' := [(0, .ref bS), (1, .ref (ad2 0)), (2, .ref (ad2 40)), (3, .ref (ad2 90)), (4, .ref (ad2 91)), (5, ii_v ((i : Nat) : Int)), (6, ii_v ((kk : Nat) : Int)), (7, ii_v v)]) C dL_law_1703 (by decide) rfl ?_
  refine a_aload_n C dL_law_1705 rfl ?_
  refine a_callV (o := 40) (As := []) C (m_thrown hl h _) co_X10_thrown in_X10 ml_L_148 im_X10_thrown se_X10_thrown rfl rfl ar_X10_thrown ⟨by decide, by decide, by omega, by omega⟩ rfl (Nat.le_of_ble_eq_true rfl) dL_law_1706 (a_dR ?_) a_nR
  rw [m7]
  refine a_iload C dL_law_1709 rfl ?_
  refine a_icmp_eq (tgt := 1716) C dL_law_1711 rfl (by unfold ii_B; omega) (by unfold ii_B; omega) (fun _ => ?_) (fun hz => absurd rfl hz)
  refine a_iload C dL_law_1716 rfl ?_
  refine a_if_ne (tgt := 1733) C dL_law_1718 rfl (by unfold ii_B; omega) (fun hz => ?_) (fun hz => ?_)
  · skip
    refine a_goto (tgt := 2612) C dL_law_1733 rfl ?_
    refine a_pick [0, 1, 2, 3, 4, 5] (L2 := [(0, .ref bS), (1, .ref (ad2 0)), (2, .ref (ad2 40)), (3, .ref (ad2 90)), (4, .ref (ad2 91)), (5, ii_v ((i : Nat) : Int))]) rfl ?_
    exact K _ _ _ _ _ _ _ _ ⟨CL_k h4 m6, m5, hS2⟩ h6
  · have hk0 : kk = 0 := by omega
    subst hk0
    rw [if_pos rfl, ← hkv rfl]
    refine a_aload_n C dL_law_1721 rfl ?_
    refine a_iconst C dL_law_1722 ?_
    refine a_lald C dL_law_1723 ?_
    refine a_iload C dL_law_1724 rfl ?_
    refine a_i2l C dL_law_1726 ?_
    refine a_lcmpE C dL_law_1727 ?_
    refine a_if_eq (tgt := 1733) C dL_law_1728 rfl (by unfold ii_B; omega) (fun _ => ?_) (fun hz => absurd rfl hz)
    refine a_goto (tgt := 2612) C dL_law_1733 rfl ?_
    refine a_pick [0, 1, 2, 3, 4, 5] (L2 := [(0, .ref bS), (1, .ref (ad2 0)), (2, .ref (ad2 40)), (3, .ref (ad2 90)), (4, .ref (ad2 91)), (5, ii_v ((i : Nat) : Int))]) rfl ?_
    exact K _ _ _ _ _ _ _ _ ⟨CL_k h4 m6, m5, hS2⟩ h6
set_option maxHeartbeats 1000000 in
theorem lc_improve {p : Program} {l : Launch} {e : Env} {s : State} {m : MethodId} {args : Array Value} {below : List Frame} {meth : Method} {c : Code} {E : ab_E} {base : Nat} {Q : State → Prop} (C : ab_C p l s m args meth c E base 8 RL cL_law (some .boolean)) (hl : l.stackTraces = false) (hN : ab_NC s) {bS Lx : Nat} {xs : Nat → Int32} (hX : va_X bS Lx xs s s.heap) (hbl : bS < s.heap.size) (hbA : ¬ ab_A base bS) (hLx : Lx ≤ 3072) {ad : Nat → Nat} {f a : Nat → Nat → Int} {TS : Nat → List Nat} {nb nr : Nat} {tm : Int} {vL : Int64} {vD : UInt64} {k n i : Nat} (hI : IS f a TS nb nr tm) (hi : i + 6 ≤ Lx) (hk : k + 4 ≤ 601024) (hn : n + 150 ≤ 7293034) (K : lw_K p l e s m args below meth c E base Q bS tm k n i) : ab_W p l e (ab_rm 20 601024 7293034) s m args below meth c E base 8 Q ab_x4 ad (f, nb, nr, vL, vD) k n 1736 [(0, .ref bS), (1, .ref (ad 0)), (2, .ref (ad 40)), (3, .ref (ad 90)), (4, .ref (ad 91)), (5, ii_v ((i : Nat) : Int))] [] := by
  obtain ⟨v1, e1⟩ : ∃ v : Int, v = (xs (i + 1)).toInt := ⟨_, rfl⟩
  have z1 : -2147483648 ≤ v1 ∧ v1 < 2147483648 := by rw [e1]; exact ii_Bof _
  obtain ⟨kk, u, v, a2, TS2, nb2, nr2, hS2, hkv, hkl, hZ, hMz⟩ := z_improve (E := E) (base := base) (ad := ad) (ol := (vL, vD)) hl hI v1 z1
  have hkl : kk ≤ 1 := hkl
  refine a_aload_n C dL_law_1736 rfl ?_
  refine a_aload_n C dL_law_1737 rfl ?_
  refine a_iload C dL_law_1738 rfl ?_
  refine a_iconst C dL_law_1740 ?_
  refine a_iadd C dL_law_1741 ?_
  refine a_siald (j := i + 1) C hX hbl hbA (by omega) (by omega) (by omega) dL_law_1742 ?_
  rw [← e1]
  refine a_aload_n C dL_law_1743 rfl ?_
  refine a_callSH (As := [.ref (ad 0), ii_v v1, .ref (ad 90)]) C hN (w_improve hl hkl hZ) co_L_improve in_L ml_L_221 sc_L_improve ar_L_improve ⟨by decide, by decide, by omega, by omega⟩ rfl (Nat.le_of_ble_eq_true rfl) dL_law_1744 (fun ov x1 ad1 z1 hp => ?_) (fun X x1 ad1 z1 hp => by cases hp.2.2.1)
  obtain ⟨h1, h2, h3, h4, h5, h6⟩ := hp
  obtain ⟨g, w9⟩ := z1
  cases h3
  cases h2
  subst h1
  dsimp only at h4 h5
  rw [← h6 0 (by decide), ← h6 40 (by decide), ← h6 90 (by decide), ← h6 91 (by decide)]
  refine a_istore (L' := [(0, .ref bS), (1, .ref (ad1 0)), (2, .ref (ad1 40)), (3, .ref (ad1 90)), (4, .ref (ad1 91)), (5, ii_v ((i : Nat) : Int)), (6, ii_v ((kk : Nat) : Int))]) C dL_law_1747 (by decide) rfl ?_
  refine a_aload_n C dL_law_1749 rfl ?_
  refine a_aload_n C dL_law_1750 rfl ?_
  refine a_iload C dL_law_1751 rfl ?_
  refine a_iconst C dL_law_1753 ?_
  refine a_iadd C dL_law_1754 ?_
  refine a_siald (j := i + 1) C hX hbl hbA (by omega) (by omega) (by omega) dL_law_1755 ?_
  rw [← e1]
  obtain ⟨d2, Post2, hd2, hM2, hP2⟩ := hMz ad1 g _ h4 (ML_k hI.2.1 h5)
  refine a_callV (o := 40) (As := [ii_v v1]) C hM2 co_X10_improve in_X10 ml_L_223 im_X10_improve se_X10_improve rfl rfl ar_X10_improve ⟨by omega, by decide, by omega, by omega⟩ rfl (Nat.le_of_ble_eq_true rfl) dL_law_1756 (fun ov x1 ad2 z1 hp => ?_) (fun X x1 ad2 z1 hp => by cases (hP2 _ _ _ _ hp).2.2.2.1)
  obtain ⟨m1, m2, m3, m4, m5, m6, m7⟩ := hP2 _ _ _ _ hp
  obtain ⟨h, w9⟩ := z1
  cases m4
  cases m3
  subst m1 m2
  dsimp only at m5 m6 m7
  refine a_istore (L' := [(0, .ref bS), (1, .ref (ad2 0)), (2, .ref (ad2 40)), (3, .ref (ad2 90)), (4, .ref (ad2 91)), (5, ii_v ((i : Nat) : Int)), (6, ii_v ((kk : Nat) : Int)), (7, ii_v v)]) C dL_law_1759 (by decide) rfl ?_
  refine a_aload_n C dL_law_1761 rfl ?_
  refine a_callV (o := 40) (As := []) C (m_thrown hl h _) co_X10_thrown in_X10 ml_L_148 im_X10_thrown se_X10_thrown rfl rfl ar_X10_thrown ⟨by decide, by decide, by omega, by omega⟩ rfl (Nat.le_of_ble_eq_true rfl) dL_law_1762 (a_dR ?_) a_nR
  rw [m7]
  refine a_iload C dL_law_1765 rfl ?_
  refine a_icmp_eq (tgt := 1772) C dL_law_1767 rfl (by unfold ii_B; omega) (by unfold ii_B; omega) (fun _ => ?_) (fun hz => absurd rfl hz)
  refine a_iload C dL_law_1772 rfl ?_
  refine a_if_ne (tgt := 1789) C dL_law_1774 rfl (by unfold ii_B; omega) (fun hz => ?_) (fun hz => ?_)
  · skip
    refine a_goto (tgt := 2612) C dL_law_1789 rfl ?_
    refine a_pick [0, 1, 2, 3, 4, 5] (L2 := [(0, .ref bS), (1, .ref (ad2 0)), (2, .ref (ad2 40)), (3, .ref (ad2 90)), (4, .ref (ad2 91)), (5, ii_v ((i : Nat) : Int))]) rfl ?_
    exact K _ _ _ _ _ _ _ _ ⟨CL_k h4 m6, m5, hS2⟩ h6
  · have hk0 : kk = 0 := by omega
    subst hk0
    rw [if_pos rfl, ← hkv rfl]
    refine a_aload_n C dL_law_1777 rfl ?_
    refine a_iconst C dL_law_1778 ?_
    refine a_lald C dL_law_1779 ?_
    refine a_iload C dL_law_1780 rfl ?_
    refine a_i2l C dL_law_1782 ?_
    refine a_lcmpE C dL_law_1783 ?_
    refine a_if_eq (tgt := 1789) C dL_law_1784 rfl (by unfold ii_B; omega) (fun _ => ?_) (fun hz => absurd rfl hz)
    refine a_goto (tgt := 2612) C dL_law_1789 rfl ?_
    refine a_pick [0, 1, 2, 3, 4, 5] (L2 := [(0, .ref bS), (1, .ref (ad2 0)), (2, .ref (ad2 40)), (3, .ref (ad2 90)), (4, .ref (ad2 91)), (5, ii_v ((i : Nat) : Int))]) rfl ?_
    exact K _ _ _ _ _ _ _ _ ⟨CL_k h4 m6, m5, hS2⟩ h6
set_option maxHeartbeats 1000000 in
theorem lc_pass {p : Program} {l : Launch} {e : Env} {s : State} {m : MethodId} {args : Array Value} {below : List Frame} {meth : Method} {c : Code} {E : ab_E} {base : Nat} {Q : State → Prop} (C : ab_C p l s m args meth c E base 8 RL cL_law (some .boolean)) (hl : l.stackTraces = false) (hN : ab_NC s) {bS Lx : Nat} {xs : Nat → Int32} (hX : va_X bS Lx xs s s.heap) (hbl : bS < s.heap.size) (hbA : ¬ ab_A base bS) (hLx : Lx ≤ 3072) {ad : Nat → Nat} {f a : Nat → Nat → Int} {TS : Nat → List Nat} {nb nr : Nat} {tm : Int} {vL : Int64} {vD : UInt64} {k n i : Nat} (hI : IS f a TS nb nr tm) (hi : i + 6 ≤ Lx) (hk : k + 4 ≤ 601024) (hn : n + 150 ≤ 7293034) (K : lw_K p l e s m args below meth c E base Q bS tm k n i) : ab_W p l e (ab_rm 20 601024 7293034) s m args below meth c E base 8 Q ab_x4 ad (f, nb, nr, vL, vD) k n 1792 [(0, .ref bS), (1, .ref (ad 0)), (2, .ref (ad 40)), (3, .ref (ad 90)), (4, .ref (ad 91)), (5, ii_v ((i : Nat) : Int))] [] := by
  obtain ⟨v1, e1⟩ : ∃ v : Int, v = (xs (i + 1)).toInt := ⟨_, rfl⟩
  have z1 : -2147483648 ≤ v1 ∧ v1 < 2147483648 := by rw [e1]; exact ii_Bof _
  obtain ⟨kk, u, v, a2, TS2, nb2, nr2, hS2, hkv, hkl, hZ, hMz⟩ := z_pass (E := E) (base := base) (ad := ad) (ol := (vL, vD)) hl hI v1 z1
  have hkl : kk ≤ 1 := hkl
  refine a_aload_n C dL_law_1792 rfl ?_
  refine a_aload_n C dL_law_1793 rfl ?_
  refine a_iload C dL_law_1794 rfl ?_
  refine a_iconst C dL_law_1796 ?_
  refine a_iadd C dL_law_1797 ?_
  refine a_siald (j := i + 1) C hX hbl hbA (by omega) (by omega) (by omega) dL_law_1798 ?_
  rw [← e1]
  refine a_aload_n C dL_law_1799 rfl ?_
  refine a_callSH (As := [.ref (ad 0), ii_v v1, .ref (ad 90)]) C hN (w_pass hl hkl hZ) co_L_pass in_L ml_L_224 sc_L_pass ar_L_pass ⟨by decide, by decide, by omega, by omega⟩ rfl (Nat.le_of_ble_eq_true rfl) dL_law_1800 (fun ov x1 ad1 z1 hp => ?_) (fun X x1 ad1 z1 hp => by cases hp.2.2.1)
  obtain ⟨h1, h2, h3, h4, h5, h6⟩ := hp
  obtain ⟨g, w9⟩ := z1
  cases h3
  cases h2
  subst h1
  dsimp only at h4 h5
  rw [← h6 0 (by decide), ← h6 40 (by decide), ← h6 90 (by decide), ← h6 91 (by decide)]
  refine a_istore (L' := [(0, .ref bS), (1, .ref (ad1 0)), (2, .ref (ad1 40)), (3, .ref (ad1 90)), (4, .ref (ad1 91)), (5, ii_v ((i : Nat) : Int)), (6, ii_v ((kk : Nat) : Int))]) C dL_law_1803 (by decide) rfl ?_
  refine a_aload_n C dL_law_1805 rfl ?_
  refine a_aload_n C dL_law_1806 rfl ?_
  refine a_iload C dL_law_1807 rfl ?_
  refine a_iconst C dL_law_1809 ?_
  refine a_iadd C dL_law_1810 ?_
  refine a_siald (j := i + 1) C hX hbl hbA (by omega) (by omega) (by omega) dL_law_1811 ?_
  rw [← e1]
  obtain ⟨d2, Post2, hd2, hM2, hP2⟩ := hMz ad1 g _ h4 (ML_k hI.2.1 h5)
  refine a_callV (o := 40) (As := [ii_v v1]) C hM2 co_X10_pass in_X10 ml_L_226 im_X10_pass se_X10_pass rfl rfl ar_X10_pass ⟨by omega, by decide, by omega, by omega⟩ rfl (Nat.le_of_ble_eq_true rfl) dL_law_1812 (fun ov x1 ad2 z1 hp => ?_) (fun X x1 ad2 z1 hp => by cases (hP2 _ _ _ _ hp).2.2.2.1)
  obtain ⟨m1, m2, m3, m4, m5, m6, m7⟩ := hP2 _ _ _ _ hp
  obtain ⟨h, w9⟩ := z1
  cases m4
  cases m3
  subst m1 m2
  dsimp only at m5 m6 m7
  refine a_istore (L' := [(0, .ref bS), (1, .ref (ad2 0)), (2, .ref (ad2 40)), (3, .ref (ad2 90)), (4, .ref (ad2 91)), (5, ii_v ((i : Nat) : Int)), (6, ii_v ((kk : Nat) : Int)), (7, ii_v v)]) C dL_law_1815 (by decide) rfl ?_
  refine a_aload_n C dL_law_1817 rfl ?_
  refine a_callV (o := 40) (As := []) C (m_thrown hl h _) co_X10_thrown in_X10 ml_L_148 im_X10_thrown se_X10_thrown rfl rfl ar_X10_thrown ⟨by decide, by decide, by omega, by omega⟩ rfl (Nat.le_of_ble_eq_true rfl) dL_law_1818 (a_dR ?_) a_nR
  rw [m7]
  refine a_iload C dL_law_1821 rfl ?_
  refine a_icmp_eq (tgt := 1828) C dL_law_1823 rfl (by unfold ii_B; omega) (by unfold ii_B; omega) (fun _ => ?_) (fun hz => absurd rfl hz)
  refine a_iload C dL_law_1828 rfl ?_
  refine a_if_ne (tgt := 1845) C dL_law_1830 rfl (by unfold ii_B; omega) (fun hz => ?_) (fun hz => ?_)
  · skip
    refine a_goto (tgt := 2612) C dL_law_1845 rfl ?_
    refine a_pick [0, 1, 2, 3, 4, 5] (L2 := [(0, .ref bS), (1, .ref (ad2 0)), (2, .ref (ad2 40)), (3, .ref (ad2 90)), (4, .ref (ad2 91)), (5, ii_v ((i : Nat) : Int))]) rfl ?_
    exact K _ _ _ _ _ _ _ _ ⟨CL_k h4 m6, m5, hS2⟩ h6
  · have hk0 : kk = 0 := by omega
    subst hk0
    rw [if_pos rfl, ← hkv rfl]
    refine a_aload_n C dL_law_1833 rfl ?_
    refine a_iconst C dL_law_1834 ?_
    refine a_lald C dL_law_1835 ?_
    refine a_iload C dL_law_1836 rfl ?_
    refine a_i2l C dL_law_1838 ?_
    refine a_lcmpE C dL_law_1839 ?_
    refine a_if_eq (tgt := 1845) C dL_law_1840 rfl (by unfold ii_B; omega) (fun _ => ?_) (fun hz => absurd rfl hz)
    refine a_goto (tgt := 2612) C dL_law_1845 rfl ?_
    refine a_pick [0, 1, 2, 3, 4, 5] (L2 := [(0, .ref bS), (1, .ref (ad2 0)), (2, .ref (ad2 40)), (3, .ref (ad2 90)), (4, .ref (ad2 91)), (5, ii_v ((i : Nat) : Int))]) rfl ?_
    exact K _ _ _ _ _ _ _ _ ⟨CL_k h4 m6, m5, hS2⟩ h6
theorem lc_now {p : Program} {l : Launch} {e : Env} {s : State} {m : MethodId} {args : Array Value} {below : List Frame} {meth : Method} {c : Code} {E : ab_E} {base : Nat} {Q : State → Prop} (C : ab_C p l s m args meth c E base 8 RL cL_law (some .boolean)) (hl : l.stackTraces = false) (hN : ab_NC s) {bS Lx : Nat} {xs : Nat → Int32} (hX : va_X bS Lx xs s s.heap) (hbl : bS < s.heap.size) (hbA : ¬ ab_A base bS) (hLx : Lx ≤ 3072) {ad : Nat → Nat} {f a : Nat → Nat → Int} {TS : Nat → List Nat} {nb nr : Nat} {tm : Int} {vL : Int64} {vD : UInt64} {k n i : Nat} (hI : IS f a TS nb nr tm) (hi : i + 6 ≤ Lx) (hk : k + 4 ≤ 601024) (hn : n + 150 ≤ 7293034) (K : lw_K p l e s m args below meth c E base Q bS tm k n i) : ab_W p l e (ab_rm 20 601024 7293034) s m args below meth c E base 8 Q ab_x4 ad (f, nb, nr, vL, vD) k n 1848 [(0, .ref bS), (1, .ref (ad 0)), (2, .ref (ad 40)), (3, .ref (ad 90)), (4, .ref (ad 91)), (5, ii_v ((i : Nat) : Int))] [] := by
  obtain ⟨hC, hL, hS, htm⟩ := hI
  have hB := hS.1
  have h30 := hB.2.1
  have h06 := hB.2.2.1
  obtain ⟨ne, hjo, hsl⟩ := hB.2.2.2.2.2.2.2.2.2
  refine a_aload_n C dL_law_1848 rfl ?_
  refine a_callV (o := 0) (As := []) C (c_now hl f (nb, nr, vL, vD)) co_X9_now in_X9 ml_L_227 im_X9_now se_X9_now rfl rfl ar_X9_now ⟨by decide, by decide, by omega, by omega⟩ rfl (Nat.le_of_ble_eq_true rfl) dL_law_1849 (a_dR ?_) a_nR
  refine a_aload_n C dL_law_1852 rfl ?_
  refine a_callV (o := 40) (As := []) C (m_now hl f (nb, nr, vL, vD)) co_X10_now in_X10 ml_L_230 im_X10_now se_X10_now rfl rfl ar_X10_now ⟨by decide, by decide, by omega, by omega⟩ rfl (Nat.le_of_ble_eq_true rfl) dL_law_1853 (a_dR ?_) a_nR
  rw [show f 40 32 = a 0 6 from hL.1.1.2.2.2.1, hC.1 0 (by omega)]
  refine a_icmp_eq (tgt := 2612) C dL_law_1856 rfl (by unfold ii_B; omega) (by unfold ii_B; omega) (fun _ => ?_) (fun hz => absurd rfl hz)
  refine ab_more (k2 := k + 4) (n2 := n + 150) (by omega) (by omega) ?_
  exact K _ _ _ _ _ _ _ _ ⟨CL_k hC (fun o ho => ii_up_row _ _ (by omega)), ML_0 hL (by decide), st_60 hS⟩ (fun _ _ => rfl)
set_option maxHeartbeats 1000000 in
theorem lc_x {p : Program} {l : Launch} {e : Env} {s : State} {m : MethodId} {args : Array Value} {below : List Frame} {meth : Method} {c : Code} {E : ab_E} {base : Nat} {Q : State → Prop} (C : ab_C p l s m args meth c E base 8 RL cL_law (some .boolean)) (hl : l.stackTraces = false) (hN : ab_NC s) {bS Lx : Nat} {xs : Nat → Int32} (hX : va_X bS Lx xs s s.heap) (hbl : bS < s.heap.size) (hbA : ¬ ab_A base bS) (hLx : Lx ≤ 3072) {ad : Nat → Nat} {f a : Nat → Nat → Int} {TS : Nat → List Nat} {nb nr : Nat} {tm : Int} {vL : Int64} {vD : UInt64} {k n i : Nat} (hI : IS f a TS nb nr tm) (hi : i + 6 ≤ Lx) (hk : k + 4 ≤ 601024) (hn : n + 150 ≤ 7293034) (K : lw_K p l e s m args below meth c E base Q bS tm k n i) : ab_W p l e (ab_rm 20 601024 7293034) s m args below meth c E base 8 Q ab_x4 ad (f, nb, nr, vL, vD) k n 1861 [(0, .ref bS), (1, .ref (ad 0)), (2, .ref (ad 40)), (3, .ref (ad 90)), (4, .ref (ad 91)), (5, ii_v ((i : Nat) : Int))] [] := by
  obtain ⟨v1, e1⟩ : ∃ v : Int, v = (xs (i + 1)).toInt := ⟨_, rfl⟩
  have z1 : -2147483648 ≤ v1 ∧ v1 < 2147483648 := by rw [e1]; exact ii_Bof _
  obtain ⟨kk, u, v, a2, TS2, nb2, nr2, hS2, hkv, hkl, hZ, hMz⟩ := z_x (E := E) (base := base) (ad := ad) (ol := (vL, vD)) hl hI v1 z1
  have hkl : kk ≤ 1 := hkl
  refine a_aload_n C dL_law_1861 rfl ?_
  refine a_aload_n C dL_law_1862 rfl ?_
  refine a_iload C dL_law_1863 rfl ?_
  refine a_iconst C dL_law_1865 ?_
  refine a_iadd C dL_law_1866 ?_
  refine a_siald (j := i + 1) C hX hbl hbA (by omega) (by omega) (by omega) dL_law_1867 ?_
  rw [← e1]
  refine a_aload_n C dL_law_1868 rfl ?_
  refine a_callSH (As := [.ref (ad 0), ii_v v1, .ref (ad 90)]) C hN (w_x hl hkl hZ) co_L_x in_L ml_L_231 sc_L_x ar_L_x ⟨by decide, by decide, by omega, by omega⟩ rfl (Nat.le_of_ble_eq_true rfl) dL_law_1869 (fun ov x1 ad1 z1 hp => ?_) (fun X x1 ad1 z1 hp => by cases hp.2.2.1)
  obtain ⟨h1, h2, h3, h4, h5, h6⟩ := hp
  obtain ⟨g, w9⟩ := z1
  cases h3
  cases h2
  subst h1
  dsimp only at h4 h5
  rw [← h6 0 (by decide), ← h6 40 (by decide), ← h6 90 (by decide), ← h6 91 (by decide)]
  refine a_istore (L' := [(0, .ref bS), (1, .ref (ad1 0)), (2, .ref (ad1 40)), (3, .ref (ad1 90)), (4, .ref (ad1 91)), (5, ii_v ((i : Nat) : Int)), (6, ii_v ((kk : Nat) : Int))]) C dL_law_1872 (by decide) rfl ?_
  refine a_aload_n C dL_law_1874 rfl ?_
  refine a_aload_n C dL_law_1875 rfl ?_
  refine a_iload C dL_law_1876 rfl ?_
  refine a_iconst C dL_law_1878 ?_
  refine a_iadd C dL_law_1879 ?_
  refine a_siald (j := i + 1) C hX hbl hbA (by omega) (by omega) (by omega) dL_law_1880 ?_
  rw [← e1]
  obtain ⟨d2, Post2, hd2, hM2, hP2⟩ := hMz ad1 g _ h4 (ML_k hI.2.1 h5)
  refine a_callV (o := 40) (As := [ii_v v1]) C hM2 co_X10_x in_X10 ml_L_233 im_X10_x se_X10_x rfl rfl ar_X10_x ⟨by omega, by decide, by omega, by omega⟩ rfl (Nat.le_of_ble_eq_true rfl) dL_law_1881 (fun ov x1 ad2 z1 hp => ?_) (fun X x1 ad2 z1 hp => by cases (hP2 _ _ _ _ hp).2.2.2.1)
  obtain ⟨m1, m2, m3, m4, m5, m6, m7⟩ := hP2 _ _ _ _ hp
  obtain ⟨h, w9⟩ := z1
  cases m4
  cases m3
  subst m1 m2
  dsimp only at m5 m6 m7
  refine a_istore (L' := [(0, .ref bS), (1, .ref (ad2 0)), (2, .ref (ad2 40)), (3, .ref (ad2 90)), (4, .ref (ad2 91)), (5, ii_v ((i : Nat) : Int)), (6, ii_v ((kk : Nat) : Int)), (7, ii_v v)]) C dL_law_1884 (by decide) rfl ?_
  refine a_aload_n C dL_law_1886 rfl ?_
  refine a_callV (o := 40) (As := []) C (m_thrown hl h _) co_X10_thrown in_X10 ml_L_148 im_X10_thrown se_X10_thrown rfl rfl ar_X10_thrown ⟨by decide, by decide, by omega, by omega⟩ rfl (Nat.le_of_ble_eq_true rfl) dL_law_1887 (a_dR ?_) a_nR
  rw [m7]
  refine a_iload C dL_law_1890 rfl ?_
  refine a_icmp_eq (tgt := 1897) C dL_law_1892 rfl (by unfold ii_B; omega) (by unfold ii_B; omega) (fun _ => ?_) (fun hz => absurd rfl hz)
  refine a_iload C dL_law_1897 rfl ?_
  refine a_if_ne (tgt := 1914) C dL_law_1899 rfl (by unfold ii_B; omega) (fun hz => ?_) (fun hz => ?_)
  · skip
    refine a_goto (tgt := 2612) C dL_law_1914 rfl ?_
    refine a_pick [0, 1, 2, 3, 4, 5] (L2 := [(0, .ref bS), (1, .ref (ad2 0)), (2, .ref (ad2 40)), (3, .ref (ad2 90)), (4, .ref (ad2 91)), (5, ii_v ((i : Nat) : Int))]) rfl ?_
    exact K _ _ _ _ _ _ _ _ ⟨CL_k h4 m6, m5, hS2⟩ h6
  · have hk0 : kk = 0 := by omega
    subst hk0
    rw [if_pos rfl, ← hkv rfl]
    refine a_aload_n C dL_law_1902 rfl ?_
    refine a_iconst C dL_law_1903 ?_
    refine a_lald C dL_law_1904 ?_
    refine a_iload C dL_law_1905 rfl ?_
    refine a_i2l C dL_law_1907 ?_
    refine a_lcmpE C dL_law_1908 ?_
    refine a_if_eq (tgt := 1914) C dL_law_1909 rfl (by unfold ii_B; omega) (fun _ => ?_) (fun hz => absurd rfl hz)
    refine a_goto (tgt := 2612) C dL_law_1914 rfl ?_
    refine a_pick [0, 1, 2, 3, 4, 5] (L2 := [(0, .ref bS), (1, .ref (ad2 0)), (2, .ref (ad2 40)), (3, .ref (ad2 90)), (4, .ref (ad2 91)), (5, ii_v ((i : Nat) : Int))]) rfl ?_
    exact K _ _ _ _ _ _ _ _ ⟨CL_k h4 m6, m5, hS2⟩ h6
set_option maxHeartbeats 1000000 in
theorem lc_y {p : Program} {l : Launch} {e : Env} {s : State} {m : MethodId} {args : Array Value} {below : List Frame} {meth : Method} {c : Code} {E : ab_E} {base : Nat} {Q : State → Prop} (C : ab_C p l s m args meth c E base 8 RL cL_law (some .boolean)) (hl : l.stackTraces = false) (hN : ab_NC s) {bS Lx : Nat} {xs : Nat → Int32} (hX : va_X bS Lx xs s s.heap) (hbl : bS < s.heap.size) (hbA : ¬ ab_A base bS) (hLx : Lx ≤ 3072) {ad : Nat → Nat} {f a : Nat → Nat → Int} {TS : Nat → List Nat} {nb nr : Nat} {tm : Int} {vL : Int64} {vD : UInt64} {k n i : Nat} (hI : IS f a TS nb nr tm) (hi : i + 6 ≤ Lx) (hk : k + 4 ≤ 601024) (hn : n + 150 ≤ 7293034) (K : lw_K p l e s m args below meth c E base Q bS tm k n i) : ab_W p l e (ab_rm 20 601024 7293034) s m args below meth c E base 8 Q ab_x4 ad (f, nb, nr, vL, vD) k n 1917 [(0, .ref bS), (1, .ref (ad 0)), (2, .ref (ad 40)), (3, .ref (ad 90)), (4, .ref (ad 91)), (5, ii_v ((i : Nat) : Int))] [] := by
  obtain ⟨v1, e1⟩ : ∃ v : Int, v = (xs (i + 1)).toInt := ⟨_, rfl⟩
  have z1 : -2147483648 ≤ v1 ∧ v1 < 2147483648 := by rw [e1]; exact ii_Bof _
  obtain ⟨kk, u, v, a2, TS2, nb2, nr2, hS2, hkv, hkl, hZ, hMz⟩ := z_y (E := E) (base := base) (ad := ad) (ol := (vL, vD)) hl hI v1 z1
  have hkl : kk ≤ 1 := hkl
  refine a_aload_n C dL_law_1917 rfl ?_
  refine a_aload_n C dL_law_1918 rfl ?_
  refine a_iload C dL_law_1919 rfl ?_
  refine a_iconst C dL_law_1921 ?_
  refine a_iadd C dL_law_1922 ?_
  refine a_siald (j := i + 1) C hX hbl hbA (by omega) (by omega) (by omega) dL_law_1923 ?_
  rw [← e1]
  refine a_aload_n C dL_law_1924 rfl ?_
  refine a_callSH (As := [.ref (ad 0), ii_v v1, .ref (ad 90)]) C hN (w_y hl hkl hZ) co_L_y in_L ml_L_234 sc_L_y ar_L_y ⟨by decide, by decide, by omega, by omega⟩ rfl (Nat.le_of_ble_eq_true rfl) dL_law_1925 (fun ov x1 ad1 z1 hp => ?_) (fun X x1 ad1 z1 hp => by cases hp.2.2.1)
  obtain ⟨h1, h2, h3, h4, h5, h6⟩ := hp
  obtain ⟨g, w9⟩ := z1
  cases h3
  cases h2
  subst h1
  dsimp only at h4 h5
  rw [← h6 0 (by decide), ← h6 40 (by decide), ← h6 90 (by decide), ← h6 91 (by decide)]
  refine a_istore (L' := [(0, .ref bS), (1, .ref (ad1 0)), (2, .ref (ad1 40)), (3, .ref (ad1 90)), (4, .ref (ad1 91)), (5, ii_v ((i : Nat) : Int)), (6, ii_v ((kk : Nat) : Int))]) C dL_law_1928 (by decide) rfl ?_
  refine a_aload_n C dL_law_1930 rfl ?_
  refine a_aload_n C dL_law_1931 rfl ?_
  refine a_iload C dL_law_1932 rfl ?_
  refine a_iconst C dL_law_1934 ?_
  refine a_iadd C dL_law_1935 ?_
  refine a_siald (j := i + 1) C hX hbl hbA (by omega) (by omega) (by omega) dL_law_1936 ?_
  rw [← e1]
  obtain ⟨d2, Post2, hd2, hM2, hP2⟩ := hMz ad1 g _ h4 (ML_k hI.2.1 h5)
  refine a_callV (o := 40) (As := [ii_v v1]) C hM2 co_X10_y in_X10 ml_L_236 im_X10_y se_X10_y rfl rfl ar_X10_y ⟨by omega, by decide, by omega, by omega⟩ rfl (Nat.le_of_ble_eq_true rfl) dL_law_1937 (fun ov x1 ad2 z1 hp => ?_) (fun X x1 ad2 z1 hp => by cases (hP2 _ _ _ _ hp).2.2.2.1)
  obtain ⟨m1, m2, m3, m4, m5, m6, m7⟩ := hP2 _ _ _ _ hp
  obtain ⟨h, w9⟩ := z1
  cases m4
  cases m3
  subst m1 m2
  dsimp only at m5 m6 m7
  refine a_istore (L' := [(0, .ref bS), (1, .ref (ad2 0)), (2, .ref (ad2 40)), (3, .ref (ad2 90)), (4, .ref (ad2 91)), (5, ii_v ((i : Nat) : Int)), (6, ii_v ((kk : Nat) : Int)), (7, ii_v v)]) C dL_law_1940 (by decide) rfl ?_
  refine a_aload_n C dL_law_1942 rfl ?_
  refine a_callV (o := 40) (As := []) C (m_thrown hl h _) co_X10_thrown in_X10 ml_L_148 im_X10_thrown se_X10_thrown rfl rfl ar_X10_thrown ⟨by decide, by decide, by omega, by omega⟩ rfl (Nat.le_of_ble_eq_true rfl) dL_law_1943 (a_dR ?_) a_nR
  rw [m7]
  refine a_iload C dL_law_1946 rfl ?_
  refine a_icmp_eq (tgt := 1953) C dL_law_1948 rfl (by unfold ii_B; omega) (by unfold ii_B; omega) (fun _ => ?_) (fun hz => absurd rfl hz)
  refine a_iload C dL_law_1953 rfl ?_
  refine a_if_ne (tgt := 1970) C dL_law_1955 rfl (by unfold ii_B; omega) (fun hz => ?_) (fun hz => ?_)
  · skip
    refine a_goto (tgt := 2612) C dL_law_1970 rfl ?_
    refine a_pick [0, 1, 2, 3, 4, 5] (L2 := [(0, .ref bS), (1, .ref (ad2 0)), (2, .ref (ad2 40)), (3, .ref (ad2 90)), (4, .ref (ad2 91)), (5, ii_v ((i : Nat) : Int))]) rfl ?_
    exact K _ _ _ _ _ _ _ _ ⟨CL_k h4 m6, m5, hS2⟩ h6
  · have hk0 : kk = 0 := by omega
    subst hk0
    rw [if_pos rfl, ← hkv rfl]
    refine a_aload_n C dL_law_1958 rfl ?_
    refine a_iconst C dL_law_1959 ?_
    refine a_lald C dL_law_1960 ?_
    refine a_iload C dL_law_1961 rfl ?_
    refine a_i2l C dL_law_1963 ?_
    refine a_lcmpE C dL_law_1964 ?_
    refine a_if_eq (tgt := 1970) C dL_law_1965 rfl (by unfold ii_B; omega) (fun _ => ?_) (fun hz => absurd rfl hz)
    refine a_goto (tgt := 2612) C dL_law_1970 rfl ?_
    refine a_pick [0, 1, 2, 3, 4, 5] (L2 := [(0, .ref bS), (1, .ref (ad2 0)), (2, .ref (ad2 40)), (3, .ref (ad2 90)), (4, .ref (ad2 91)), (5, ii_v ((i : Nat) : Int))]) rfl ?_
    exact K _ _ _ _ _ _ _ _ ⟨CL_k h4 m6, m5, hS2⟩ h6
set_option maxHeartbeats 1000000 in
theorem lc_charge {p : Program} {l : Launch} {e : Env} {s : State} {m : MethodId} {args : Array Value} {below : List Frame} {meth : Method} {c : Code} {E : ab_E} {base : Nat} {Q : State → Prop} (C : ab_C p l s m args meth c E base 8 RL cL_law (some .boolean)) (hl : l.stackTraces = false) (hN : ab_NC s) {bS Lx : Nat} {xs : Nat → Int32} (hX : va_X bS Lx xs s s.heap) (hbl : bS < s.heap.size) (hbA : ¬ ab_A base bS) (hLx : Lx ≤ 3072) {ad : Nat → Nat} {f a : Nat → Nat → Int} {TS : Nat → List Nat} {nb nr : Nat} {tm : Int} {vL : Int64} {vD : UInt64} {k n i : Nat} (hI : IS f a TS nb nr tm) (hi : i + 6 ≤ Lx) (hk : k + 4 ≤ 601024) (hn : n + 150 ≤ 7293034) (K : lw_K p l e s m args below meth c E base Q bS tm k n i) : ab_W p l e (ab_rm 20 601024 7293034) s m args below meth c E base 8 Q ab_x4 ad (f, nb, nr, vL, vD) k n 1973 [(0, .ref bS), (1, .ref (ad 0)), (2, .ref (ad 40)), (3, .ref (ad 90)), (4, .ref (ad 91)), (5, ii_v ((i : Nat) : Int))] [] := by
  obtain ⟨v1, e1⟩ : ∃ v : Int, v = (xs (i + 1)).toInt := ⟨_, rfl⟩
  have z1 : -2147483648 ≤ v1 ∧ v1 < 2147483648 := by rw [e1]; exact ii_Bof _
  obtain ⟨kk, u, v, a2, TS2, nb2, nr2, hS2, hkv, hkl, hZ, hMz⟩ := z_charge (E := E) (base := base) (ad := ad) (ol := (vL, vD)) hl hI v1 z1
  have hkl : kk ≤ 1 := hkl
  refine a_aload_n C dL_law_1973 rfl ?_
  refine a_aload_n C dL_law_1974 rfl ?_
  refine a_iload C dL_law_1975 rfl ?_
  refine a_iconst C dL_law_1977 ?_
  refine a_iadd C dL_law_1978 ?_
  refine a_siald (j := i + 1) C hX hbl hbA (by omega) (by omega) (by omega) dL_law_1979 ?_
  rw [← e1]
  refine a_aload_n C dL_law_1980 rfl ?_
  refine a_callSH (As := [.ref (ad 0), ii_v v1, .ref (ad 90)]) C hN (w_charge hl hkl hZ) co_L_charge in_L ml_L_237 sc_L_charge ar_L_charge ⟨by decide, by decide, by omega, by omega⟩ rfl (Nat.le_of_ble_eq_true rfl) dL_law_1981 (fun ov x1 ad1 z1 hp => ?_) (fun X x1 ad1 z1 hp => by cases hp.2.2.1)
  obtain ⟨h1, h2, h3, h4, h5, h6⟩ := hp
  obtain ⟨g, w9⟩ := z1
  cases h3
  cases h2
  subst h1
  dsimp only at h4 h5
  rw [← h6 0 (by decide), ← h6 40 (by decide), ← h6 90 (by decide), ← h6 91 (by decide)]
  refine a_istore (L' := [(0, .ref bS), (1, .ref (ad1 0)), (2, .ref (ad1 40)), (3, .ref (ad1 90)), (4, .ref (ad1 91)), (5, ii_v ((i : Nat) : Int)), (6, ii_v ((kk : Nat) : Int))]) C dL_law_1984 (by decide) rfl ?_
  refine a_aload_n C dL_law_1986 rfl ?_
  refine a_aload_n C dL_law_1987 rfl ?_
  refine a_iload C dL_law_1988 rfl ?_
  refine a_iconst C dL_law_1990 ?_
  refine a_iadd C dL_law_1991 ?_
  refine a_siald (j := i + 1) C hX hbl hbA (by omega) (by omega) (by omega) dL_law_1992 ?_
  rw [← e1]
  obtain ⟨d2, Post2, hd2, hM2, hP2⟩ := hMz ad1 g _ h4 (ML_k hI.2.1 h5)
  refine a_callV (o := 40) (As := [ii_v v1]) C hM2 co_X10_charge in_X10 ml_L_239 im_X10_charge se_X10_charge rfl rfl ar_X10_charge ⟨by omega, by decide, by omega, by omega⟩ rfl (Nat.le_of_ble_eq_true rfl) dL_law_1993 (fun ov x1 ad2 z1 hp => ?_) (fun X x1 ad2 z1 hp => by cases (hP2 _ _ _ _ hp).2.2.2.1)
  obtain ⟨m1, m2, m3, m4, m5, m6, m7⟩ := hP2 _ _ _ _ hp
  obtain ⟨h, w9⟩ := z1
  cases m4
  cases m3
  subst m1 m2
  dsimp only at m5 m6 m7
  refine a_istore (L' := [(0, .ref bS), (1, .ref (ad2 0)), (2, .ref (ad2 40)), (3, .ref (ad2 90)), (4, .ref (ad2 91)), (5, ii_v ((i : Nat) : Int)), (6, ii_v ((kk : Nat) : Int)), (7, ii_v v)]) C dL_law_1996 (by decide) rfl ?_
  refine a_aload_n C dL_law_1998 rfl ?_
  refine a_callV (o := 40) (As := []) C (m_thrown hl h _) co_X10_thrown in_X10 ml_L_148 im_X10_thrown se_X10_thrown rfl rfl ar_X10_thrown ⟨by decide, by decide, by omega, by omega⟩ rfl (Nat.le_of_ble_eq_true rfl) dL_law_1999 (a_dR ?_) a_nR
  rw [m7]
  refine a_iload C dL_law_2002 rfl ?_
  refine a_icmp_eq (tgt := 2009) C dL_law_2004 rfl (by unfold ii_B; omega) (by unfold ii_B; omega) (fun _ => ?_) (fun hz => absurd rfl hz)
  refine a_iload C dL_law_2009 rfl ?_
  refine a_if_ne (tgt := 2026) C dL_law_2011 rfl (by unfold ii_B; omega) (fun hz => ?_) (fun hz => ?_)
  · skip
    refine a_goto (tgt := 2612) C dL_law_2026 rfl ?_
    refine a_pick [0, 1, 2, 3, 4, 5] (L2 := [(0, .ref bS), (1, .ref (ad2 0)), (2, .ref (ad2 40)), (3, .ref (ad2 90)), (4, .ref (ad2 91)), (5, ii_v ((i : Nat) : Int))]) rfl ?_
    exact K _ _ _ _ _ _ _ _ ⟨CL_k h4 m6, m5, hS2⟩ h6
  · have hk0 : kk = 0 := by omega
    subst hk0
    rw [if_pos rfl, ← hkv rfl]
    refine a_aload_n C dL_law_2014 rfl ?_
    refine a_iconst C dL_law_2015 ?_
    refine a_lald C dL_law_2016 ?_
    refine a_iload C dL_law_2017 rfl ?_
    refine a_i2l C dL_law_2019 ?_
    refine a_lcmpE C dL_law_2020 ?_
    refine a_if_eq (tgt := 2026) C dL_law_2021 rfl (by unfold ii_B; omega) (fun _ => ?_) (fun hz => absurd rfl hz)
    refine a_goto (tgt := 2612) C dL_law_2026 rfl ?_
    refine a_pick [0, 1, 2, 3, 4, 5] (L2 := [(0, .ref bS), (1, .ref (ad2 0)), (2, .ref (ad2 40)), (3, .ref (ad2 90)), (4, .ref (ad2 91)), (5, ii_v ((i : Nat) : Int))]) rfl ?_
    exact K _ _ _ _ _ _ _ _ ⟨CL_k h4 m6, m5, hS2⟩ h6
set_option maxHeartbeats 1000000 in
theorem lc_onBoard {p : Program} {l : Launch} {e : Env} {s : State} {m : MethodId} {args : Array Value} {below : List Frame} {meth : Method} {c : Code} {E : ab_E} {base : Nat} {Q : State → Prop} (C : ab_C p l s m args meth c E base 8 RL cL_law (some .boolean)) (hl : l.stackTraces = false) (hN : ab_NC s) {bS Lx : Nat} {xs : Nat → Int32} (hX : va_X bS Lx xs s s.heap) (hbl : bS < s.heap.size) (hbA : ¬ ab_A base bS) (hLx : Lx ≤ 3072) {ad : Nat → Nat} {f a : Nat → Nat → Int} {TS : Nat → List Nat} {nb nr : Nat} {tm : Int} {vL : Int64} {vD : UInt64} {k n i : Nat} (hI : IS f a TS nb nr tm) (hi : i + 6 ≤ Lx) (hk : k + 4 ≤ 601024) (hn : n + 150 ≤ 7293034) (K : lw_K p l e s m args below meth c E base Q bS tm k n i) : ab_W p l e (ab_rm 20 601024 7293034) s m args below meth c E base 8 Q ab_x4 ad (f, nb, nr, vL, vD) k n 2029 [(0, .ref bS), (1, .ref (ad 0)), (2, .ref (ad 40)), (3, .ref (ad 90)), (4, .ref (ad 91)), (5, ii_v ((i : Nat) : Int))] [] := by
  obtain ⟨v1, e1⟩ : ∃ v : Int, v = (xs (i + 1)).toInt := ⟨_, rfl⟩
  have z1 : -2147483648 ≤ v1 ∧ v1 < 2147483648 := by rw [e1]; exact ii_Bof _
  obtain ⟨kk, u, v, a2, TS2, nb2, nr2, hS2, hkv, hkl, hZ, hMz⟩ := z_onBoard (E := E) (base := base) (ad := ad) (ol := (vL, vD)) hl hI v1 z1
  have hkl : kk ≤ 1 := hkl
  refine a_aload_n C dL_law_2029 rfl ?_
  refine a_aload_n C dL_law_2030 rfl ?_
  refine a_iload C dL_law_2031 rfl ?_
  refine a_iconst C dL_law_2033 ?_
  refine a_iadd C dL_law_2034 ?_
  refine a_siald (j := i + 1) C hX hbl hbA (by omega) (by omega) (by omega) dL_law_2035 ?_
  rw [← e1]
  refine a_aload_n C dL_law_2036 rfl ?_
  refine a_callSH (As := [.ref (ad 0), ii_v v1, .ref (ad 90)]) C hN (w_onBoard hl hkl hZ) co_L_onBoard in_L ml_L_240 sc_L_onBoard ar_L_onBoard ⟨by decide, by decide, by omega, by omega⟩ rfl (Nat.le_of_ble_eq_true rfl) dL_law_2037 (fun ov x1 ad1 z1 hp => ?_) (fun X x1 ad1 z1 hp => by cases hp.2.2.1)
  obtain ⟨h1, h2, h3, h4, h5, h6⟩ := hp
  obtain ⟨g, w9⟩ := z1
  cases h3
  cases h2
  subst h1
  dsimp only at h4 h5
  rw [← h6 0 (by decide), ← h6 40 (by decide), ← h6 90 (by decide), ← h6 91 (by decide)]
  refine a_istore (L' := [(0, .ref bS), (1, .ref (ad1 0)), (2, .ref (ad1 40)), (3, .ref (ad1 90)), (4, .ref (ad1 91)), (5, ii_v ((i : Nat) : Int)), (6, ii_v ((kk : Nat) : Int))]) C dL_law_2040 (by decide) rfl ?_
  refine a_aload_n C dL_law_2042 rfl ?_
  refine a_aload_n C dL_law_2043 rfl ?_
  refine a_iload C dL_law_2044 rfl ?_
  refine a_iconst C dL_law_2046 ?_
  refine a_iadd C dL_law_2047 ?_
  refine a_siald (j := i + 1) C hX hbl hbA (by omega) (by omega) (by omega) dL_law_2048 ?_
  rw [← e1]
  obtain ⟨d2, Post2, hd2, hM2, hP2⟩ := hMz ad1 g _ h4 (ML_k hI.2.1 h5)
  refine a_callV (o := 40) (As := [ii_v v1]) C hM2 co_X10_onBoard in_X10 ml_L_242 im_X10_onBoard se_X10_onBoard rfl rfl ar_X10_onBoard ⟨by omega, by decide, by omega, by omega⟩ rfl (Nat.le_of_ble_eq_true rfl) dL_law_2049 (fun ov x1 ad2 z1 hp => ?_) (fun X x1 ad2 z1 hp => by cases (hP2 _ _ _ _ hp).2.2.2.1)
  obtain ⟨m1, m2, m3, m4, m5, m6, m7⟩ := hP2 _ _ _ _ hp
  obtain ⟨h, w9⟩ := z1
  cases m4
  cases m3
  subst m1 m2
  dsimp only at m5 m6 m7
  refine a_istore (L' := [(0, .ref bS), (1, .ref (ad2 0)), (2, .ref (ad2 40)), (3, .ref (ad2 90)), (4, .ref (ad2 91)), (5, ii_v ((i : Nat) : Int)), (6, ii_v ((kk : Nat) : Int)), (7, ii_v v)]) C dL_law_2052 (by decide) rfl ?_
  refine a_aload_n C dL_law_2054 rfl ?_
  refine a_callV (o := 40) (As := []) C (m_thrown hl h _) co_X10_thrown in_X10 ml_L_148 im_X10_thrown se_X10_thrown rfl rfl ar_X10_thrown ⟨by decide, by decide, by omega, by omega⟩ rfl (Nat.le_of_ble_eq_true rfl) dL_law_2055 (a_dR ?_) a_nR
  rw [m7]
  refine a_iload C dL_law_2058 rfl ?_
  refine a_icmp_eq (tgt := 2065) C dL_law_2060 rfl (by unfold ii_B; omega) (by unfold ii_B; omega) (fun _ => ?_) (fun hz => absurd rfl hz)
  refine a_iload C dL_law_2065 rfl ?_
  refine a_if_ne (tgt := 2082) C dL_law_2067 rfl (by unfold ii_B; omega) (fun hz => ?_) (fun hz => ?_)
  · skip
    refine a_goto (tgt := 2612) C dL_law_2082 rfl ?_
    refine a_pick [0, 1, 2, 3, 4, 5] (L2 := [(0, .ref bS), (1, .ref (ad2 0)), (2, .ref (ad2 40)), (3, .ref (ad2 90)), (4, .ref (ad2 91)), (5, ii_v ((i : Nat) : Int))]) rfl ?_
    exact K _ _ _ _ _ _ _ _ ⟨CL_k h4 m6, m5, hS2⟩ h6
  · have hk0 : kk = 0 := by omega
    subst hk0
    rw [if_pos rfl, ← hkv rfl]
    refine a_aload_n C dL_law_2070 rfl ?_
    refine a_iconst C dL_law_2071 ?_
    refine a_lald C dL_law_2072 ?_
    refine a_iload C dL_law_2073 rfl ?_
    refine a_i2l C dL_law_2075 ?_
    refine a_lcmpE C dL_law_2076 ?_
    refine a_if_eq (tgt := 2082) C dL_law_2077 rfl (by unfold ii_B; omega) (fun _ => ?_) (fun hz => absurd rfl hz)
    refine a_goto (tgt := 2612) C dL_law_2082 rfl ?_
    refine a_pick [0, 1, 2, 3, 4, 5] (L2 := [(0, .ref bS), (1, .ref (ad2 0)), (2, .ref (ad2 40)), (3, .ref (ad2 90)), (4, .ref (ad2 91)), (5, ii_v ((i : Nat) : Int))]) rfl ?_
    exact K _ _ _ _ _ _ _ _ ⟨CL_k h4 m6, m5, hS2⟩ h6
set_option maxHeartbeats 1000000 in
theorem lc_driven {p : Program} {l : Launch} {e : Env} {s : State} {m : MethodId} {args : Array Value} {below : List Frame} {meth : Method} {c : Code} {E : ab_E} {base : Nat} {Q : State → Prop} (C : ab_C p l s m args meth c E base 8 RL cL_law (some .boolean)) (hl : l.stackTraces = false) (hN : ab_NC s) {bS Lx : Nat} {xs : Nat → Int32} (hX : va_X bS Lx xs s s.heap) (hbl : bS < s.heap.size) (hbA : ¬ ab_A base bS) (hLx : Lx ≤ 3072) {ad : Nat → Nat} {f a : Nat → Nat → Int} {TS : Nat → List Nat} {nb nr : Nat} {tm : Int} {vL : Int64} {vD : UInt64} {k n i : Nat} (hI : IS f a TS nb nr tm) (hi : i + 6 ≤ Lx) (hk : k + 4 ≤ 601024) (hn : n + 150 ≤ 7293034) (K : lw_K p l e s m args below meth c E base Q bS tm k n i) : ab_W p l e (ab_rm 20 601024 7293034) s m args below meth c E base 8 Q ab_x4 ad (f, nb, nr, vL, vD) k n 2085 [(0, .ref bS), (1, .ref (ad 0)), (2, .ref (ad 40)), (3, .ref (ad 90)), (4, .ref (ad 91)), (5, ii_v ((i : Nat) : Int))] [] := by
  obtain ⟨v1, e1⟩ : ∃ v : Int, v = (xs (i + 1)).toInt := ⟨_, rfl⟩
  have z1 : -2147483648 ≤ v1 ∧ v1 < 2147483648 := by rw [e1]; exact ii_Bof _
  obtain ⟨kk, u, v, a2, TS2, nb2, nr2, hS2, hkv, hkl, hZ, hMz⟩ := z_driven (E := E) (base := base) (ad := ad) (ol := (vL, vD)) hl hI v1 z1
  have hkl : kk ≤ 1 := hkl
  refine a_aload_n C dL_law_2085 rfl ?_
  refine a_aload_n C dL_law_2086 rfl ?_
  refine a_iload C dL_law_2087 rfl ?_
  refine a_iconst C dL_law_2089 ?_
  refine a_iadd C dL_law_2090 ?_
  refine a_siald (j := i + 1) C hX hbl hbA (by omega) (by omega) (by omega) dL_law_2091 ?_
  rw [← e1]
  refine a_aload_n C dL_law_2092 rfl ?_
  refine a_callSH (As := [.ref (ad 0), ii_v v1, .ref (ad 90)]) C hN (w_driven hl hkl hZ) co_L_driven in_L ml_L_243 sc_L_driven ar_L_driven ⟨by decide, by decide, by omega, by omega⟩ rfl (Nat.le_of_ble_eq_true rfl) dL_law_2093 (fun ov x1 ad1 z1 hp => ?_) (fun X x1 ad1 z1 hp => by cases hp.2.2.1)
  obtain ⟨h1, h2, h3, h4, h5, h6⟩ := hp
  obtain ⟨g, w9⟩ := z1
  cases h3
  cases h2
  subst h1
  dsimp only at h4 h5
  rw [← h6 0 (by decide), ← h6 40 (by decide), ← h6 90 (by decide), ← h6 91 (by decide)]
  refine a_istore (L' := [(0, .ref bS), (1, .ref (ad1 0)), (2, .ref (ad1 40)), (3, .ref (ad1 90)), (4, .ref (ad1 91)), (5, ii_v ((i : Nat) : Int)), (6, ii_v ((kk : Nat) : Int))]) C dL_law_2096 (by decide) rfl ?_
  refine a_aload_n C dL_law_2098 rfl ?_
  refine a_aload_n C dL_law_2099 rfl ?_
  refine a_iload C dL_law_2100 rfl ?_
  refine a_iconst C dL_law_2102 ?_
  refine a_iadd C dL_law_2103 ?_
  refine a_siald (j := i + 1) C hX hbl hbA (by omega) (by omega) (by omega) dL_law_2104 ?_
  rw [← e1]
  obtain ⟨d2, Post2, hd2, hM2, hP2⟩ := hMz ad1 g _ h4 (ML_k hI.2.1 h5)
  refine a_callV (o := 40) (As := [ii_v v1]) C hM2 co_X10_driven in_X10 ml_L_245 im_X10_driven se_X10_driven rfl rfl ar_X10_driven ⟨by omega, by decide, by omega, by omega⟩ rfl (Nat.le_of_ble_eq_true rfl) dL_law_2105 (fun ov x1 ad2 z1 hp => ?_) (fun X x1 ad2 z1 hp => by cases (hP2 _ _ _ _ hp).2.2.2.1)
  obtain ⟨m1, m2, m3, m4, m5, m6, m7⟩ := hP2 _ _ _ _ hp
  obtain ⟨h, w9⟩ := z1
  cases m4
  cases m3
  subst m1 m2
  dsimp only at m5 m6 m7
  refine a_istore (L' := [(0, .ref bS), (1, .ref (ad2 0)), (2, .ref (ad2 40)), (3, .ref (ad2 90)), (4, .ref (ad2 91)), (5, ii_v ((i : Nat) : Int)), (6, ii_v ((kk : Nat) : Int)), (7, ii_v v)]) C dL_law_2108 (by decide) rfl ?_
  refine a_aload_n C dL_law_2110 rfl ?_
  refine a_callV (o := 40) (As := []) C (m_thrown hl h _) co_X10_thrown in_X10 ml_L_148 im_X10_thrown se_X10_thrown rfl rfl ar_X10_thrown ⟨by decide, by decide, by omega, by omega⟩ rfl (Nat.le_of_ble_eq_true rfl) dL_law_2111 (a_dR ?_) a_nR
  rw [m7]
  refine a_iload C dL_law_2114 rfl ?_
  refine a_icmp_eq (tgt := 2121) C dL_law_2116 rfl (by unfold ii_B; omega) (by unfold ii_B; omega) (fun _ => ?_) (fun hz => absurd rfl hz)
  refine a_iload C dL_law_2121 rfl ?_
  refine a_if_ne (tgt := 2138) C dL_law_2123 rfl (by unfold ii_B; omega) (fun hz => ?_) (fun hz => ?_)
  · skip
    refine a_goto (tgt := 2612) C dL_law_2138 rfl ?_
    refine a_pick [0, 1, 2, 3, 4, 5] (L2 := [(0, .ref bS), (1, .ref (ad2 0)), (2, .ref (ad2 40)), (3, .ref (ad2 90)), (4, .ref (ad2 91)), (5, ii_v ((i : Nat) : Int))]) rfl ?_
    exact K _ _ _ _ _ _ _ _ ⟨CL_k h4 m6, m5, hS2⟩ h6
  · have hk0 : kk = 0 := by omega
    subst hk0
    rw [if_pos rfl, ← hkv rfl]
    refine a_aload_n C dL_law_2126 rfl ?_
    refine a_iconst C dL_law_2127 ?_
    refine a_lald C dL_law_2128 ?_
    refine a_iload C dL_law_2129 rfl ?_
    refine a_i2l C dL_law_2131 ?_
    refine a_lcmpE C dL_law_2132 ?_
    refine a_if_eq (tgt := 2138) C dL_law_2133 rfl (by unfold ii_B; omega) (fun _ => ?_) (fun hz => absurd rfl hz)
    refine a_goto (tgt := 2612) C dL_law_2138 rfl ?_
    refine a_pick [0, 1, 2, 3, 4, 5] (L2 := [(0, .ref bS), (1, .ref (ad2 0)), (2, .ref (ad2 40)), (3, .ref (ad2 90)), (4, .ref (ad2 91)), (5, ii_v ((i : Nat) : Int))]) rfl ?_
    exact K _ _ _ _ _ _ _ _ ⟨CL_k h4 m6, m5, hS2⟩ h6
set_option maxHeartbeats 1000000 in
theorem lc_empty {p : Program} {l : Launch} {e : Env} {s : State} {m : MethodId} {args : Array Value} {below : List Frame} {meth : Method} {c : Code} {E : ab_E} {base : Nat} {Q : State → Prop} (C : ab_C p l s m args meth c E base 8 RL cL_law (some .boolean)) (hl : l.stackTraces = false) (hN : ab_NC s) {bS Lx : Nat} {xs : Nat → Int32} (hX : va_X bS Lx xs s s.heap) (hbl : bS < s.heap.size) (hbA : ¬ ab_A base bS) (hLx : Lx ≤ 3072) {ad : Nat → Nat} {f a : Nat → Nat → Int} {TS : Nat → List Nat} {nb nr : Nat} {tm : Int} {vL : Int64} {vD : UInt64} {k n i : Nat} (hI : IS f a TS nb nr tm) (hi : i + 6 ≤ Lx) (hk : k + 4 ≤ 601024) (hn : n + 150 ≤ 7293034) (K : lw_K p l e s m args below meth c E base Q bS tm k n i) : ab_W p l e (ab_rm 20 601024 7293034) s m args below meth c E base 8 Q ab_x4 ad (f, nb, nr, vL, vD) k n 2141 [(0, .ref bS), (1, .ref (ad 0)), (2, .ref (ad 40)), (3, .ref (ad 90)), (4, .ref (ad 91)), (5, ii_v ((i : Nat) : Int))] [] := by
  obtain ⟨v1, e1⟩ : ∃ v : Int, v = (xs (i + 1)).toInt := ⟨_, rfl⟩
  have z1 : -2147483648 ≤ v1 ∧ v1 < 2147483648 := by rw [e1]; exact ii_Bof _
  obtain ⟨kk, u, v, a2, TS2, nb2, nr2, hS2, hkv, hkl, hZ, hMz⟩ := z_empty (E := E) (base := base) (ad := ad) (ol := (vL, vD)) hl hI v1 z1
  have hkl : kk ≤ 1 := hkl
  refine a_aload_n C dL_law_2141 rfl ?_
  refine a_aload_n C dL_law_2142 rfl ?_
  refine a_iload C dL_law_2143 rfl ?_
  refine a_iconst C dL_law_2145 ?_
  refine a_iadd C dL_law_2146 ?_
  refine a_siald (j := i + 1) C hX hbl hbA (by omega) (by omega) (by omega) dL_law_2147 ?_
  rw [← e1]
  refine a_aload_n C dL_law_2148 rfl ?_
  refine a_callSH (As := [.ref (ad 0), ii_v v1, .ref (ad 90)]) C hN (w_empty hl hkl hZ) co_L_empty in_L ml_L_246 sc_L_empty ar_L_empty ⟨by decide, by decide, by omega, by omega⟩ rfl (Nat.le_of_ble_eq_true rfl) dL_law_2149 (fun ov x1 ad1 z1 hp => ?_) (fun X x1 ad1 z1 hp => by cases hp.2.2.1)
  obtain ⟨h1, h2, h3, h4, h5, h6⟩ := hp
  obtain ⟨g, w9⟩ := z1
  cases h3
  cases h2
  subst h1
  dsimp only at h4 h5
  rw [← h6 0 (by decide), ← h6 40 (by decide), ← h6 90 (by decide), ← h6 91 (by decide)]
  refine a_istore (L' := [(0, .ref bS), (1, .ref (ad1 0)), (2, .ref (ad1 40)), (3, .ref (ad1 90)), (4, .ref (ad1 91)), (5, ii_v ((i : Nat) : Int)), (6, ii_v ((kk : Nat) : Int))]) C dL_law_2152 (by decide) rfl ?_
  refine a_aload_n C dL_law_2154 rfl ?_
  refine a_aload_n C dL_law_2155 rfl ?_
  refine a_iload C dL_law_2156 rfl ?_
  refine a_iconst C dL_law_2158 ?_
  refine a_iadd C dL_law_2159 ?_
  refine a_siald (j := i + 1) C hX hbl hbA (by omega) (by omega) (by omega) dL_law_2160 ?_
  rw [← e1]
  obtain ⟨d2, Post2, hd2, hM2, hP2⟩ := hMz ad1 g _ h4 (ML_k hI.2.1 h5)
  refine a_callV (o := 40) (As := [ii_v v1]) C hM2 co_X10_empty in_X10 ml_L_248 im_X10_empty se_X10_empty rfl rfl ar_X10_empty ⟨by omega, by decide, by omega, by omega⟩ rfl (Nat.le_of_ble_eq_true rfl) dL_law_2161 (fun ov x1 ad2 z1 hp => ?_) (fun X x1 ad2 z1 hp => by cases (hP2 _ _ _ _ hp).2.2.2.1)
  obtain ⟨m1, m2, m3, m4, m5, m6, m7⟩ := hP2 _ _ _ _ hp
  obtain ⟨h, w9⟩ := z1
  cases m4
  cases m3
  subst m1 m2
  dsimp only at m5 m6 m7
  refine a_istore (L' := [(0, .ref bS), (1, .ref (ad2 0)), (2, .ref (ad2 40)), (3, .ref (ad2 90)), (4, .ref (ad2 91)), (5, ii_v ((i : Nat) : Int)), (6, ii_v ((kk : Nat) : Int)), (7, ii_v v)]) C dL_law_2164 (by decide) rfl ?_
  refine a_aload_n C dL_law_2166 rfl ?_
  refine a_callV (o := 40) (As := []) C (m_thrown hl h _) co_X10_thrown in_X10 ml_L_148 im_X10_thrown se_X10_thrown rfl rfl ar_X10_thrown ⟨by decide, by decide, by omega, by omega⟩ rfl (Nat.le_of_ble_eq_true rfl) dL_law_2167 (a_dR ?_) a_nR
  rw [m7]
  refine a_iload C dL_law_2170 rfl ?_
  refine a_icmp_eq (tgt := 2177) C dL_law_2172 rfl (by unfold ii_B; omega) (by unfold ii_B; omega) (fun _ => ?_) (fun hz => absurd rfl hz)
  refine a_iload C dL_law_2177 rfl ?_
  refine a_if_ne (tgt := 2194) C dL_law_2179 rfl (by unfold ii_B; omega) (fun hz => ?_) (fun hz => ?_)
  · skip
    refine a_goto (tgt := 2612) C dL_law_2194 rfl ?_
    refine a_pick [0, 1, 2, 3, 4, 5] (L2 := [(0, .ref bS), (1, .ref (ad2 0)), (2, .ref (ad2 40)), (3, .ref (ad2 90)), (4, .ref (ad2 91)), (5, ii_v ((i : Nat) : Int))]) rfl ?_
    exact K _ _ _ _ _ _ _ _ ⟨CL_k h4 m6, m5, hS2⟩ h6
  · have hk0 : kk = 0 := by omega
    subst hk0
    rw [if_pos rfl, ← hkv rfl]
    refine a_aload_n C dL_law_2182 rfl ?_
    refine a_iconst C dL_law_2183 ?_
    refine a_lald C dL_law_2184 ?_
    refine a_iload C dL_law_2185 rfl ?_
    refine a_i2l C dL_law_2187 ?_
    refine a_lcmpE C dL_law_2188 ?_
    refine a_if_eq (tgt := 2194) C dL_law_2189 rfl (by unfold ii_B; omega) (fun _ => ?_) (fun hz => absurd rfl hz)
    refine a_goto (tgt := 2612) C dL_law_2194 rfl ?_
    refine a_pick [0, 1, 2, 3, 4, 5] (L2 := [(0, .ref bS), (1, .ref (ad2 0)), (2, .ref (ad2 40)), (3, .ref (ad2 90)), (4, .ref (ad2 91)), (5, ii_v ((i : Nat) : Int))]) rfl ?_
    exact K _ _ _ _ _ _ _ _ ⟨CL_k h4 m6, m5, hS2⟩ h6
set_option maxHeartbeats 1000000 in
theorem lc_emptyByJournal {p : Program} {l : Launch} {e : Env} {s : State} {m : MethodId} {args : Array Value} {below : List Frame} {meth : Method} {c : Code} {E : ab_E} {base : Nat} {Q : State → Prop} (C : ab_C p l s m args meth c E base 8 RL cL_law (some .boolean)) (hl : l.stackTraces = false) (hN : ab_NC s) {bS Lx : Nat} {xs : Nat → Int32} (hX : va_X bS Lx xs s s.heap) (hbl : bS < s.heap.size) (hbA : ¬ ab_A base bS) (hLx : Lx ≤ 3072) {ad : Nat → Nat} {f a : Nat → Nat → Int} {TS : Nat → List Nat} {nb nr : Nat} {tm : Int} {vL : Int64} {vD : UInt64} {k n i : Nat} (hI : IS f a TS nb nr tm) (hi : i + 6 ≤ Lx) (hk : k + 4 ≤ 601024) (hn : n + 150 ≤ 7293034) (K : lw_K p l e s m args below meth c E base Q bS tm k n i) : ab_W p l e (ab_rm 20 601024 7293034) s m args below meth c E base 8 Q ab_x4 ad (f, nb, nr, vL, vD) k n 2197 [(0, .ref bS), (1, .ref (ad 0)), (2, .ref (ad 40)), (3, .ref (ad 90)), (4, .ref (ad 91)), (5, ii_v ((i : Nat) : Int))] [] := by
  obtain ⟨v1, e1⟩ : ∃ v : Int, v = (xs (i + 1)).toInt := ⟨_, rfl⟩
  have z1 : -2147483648 ≤ v1 ∧ v1 < 2147483648 := by rw [e1]; exact ii_Bof _
  obtain ⟨kk, u, v, a2, TS2, nb2, nr2, hS2, hkv, hkl, hZ, hMz⟩ := z_emptyByJournal (E := E) (base := base) (ad := ad) (ol := (vL, vD)) hl hI v1 z1
  have hkl : kk ≤ 1 := hkl
  refine a_aload_n C dL_law_2197 rfl ?_
  refine a_aload_n C dL_law_2198 rfl ?_
  refine a_iload C dL_law_2199 rfl ?_
  refine a_iconst C dL_law_2201 ?_
  refine a_iadd C dL_law_2202 ?_
  refine a_siald (j := i + 1) C hX hbl hbA (by omega) (by omega) (by omega) dL_law_2203 ?_
  rw [← e1]
  refine a_aload_n C dL_law_2204 rfl ?_
  refine a_callSH (As := [.ref (ad 0), ii_v v1, .ref (ad 90)]) C hN (w_emptyByJournal hl hkl hZ) co_L_emptyByJournal in_L ml_L_249 sc_L_emptyByJournal ar_L_emptyByJournal ⟨by decide, by decide, by omega, by omega⟩ rfl (Nat.le_of_ble_eq_true rfl) dL_law_2205 (fun ov x1 ad1 z1 hp => ?_) (fun X x1 ad1 z1 hp => by cases hp.2.2.1)
  obtain ⟨h1, h2, h3, h4, h5, h6⟩ := hp
  obtain ⟨g, w9⟩ := z1
  cases h3
  cases h2
  subst h1
  dsimp only at h4 h5
  rw [← h6 0 (by decide), ← h6 40 (by decide), ← h6 90 (by decide), ← h6 91 (by decide)]
  refine a_istore (L' := [(0, .ref bS), (1, .ref (ad1 0)), (2, .ref (ad1 40)), (3, .ref (ad1 90)), (4, .ref (ad1 91)), (5, ii_v ((i : Nat) : Int)), (6, ii_v ((kk : Nat) : Int))]) C dL_law_2208 (by decide) rfl ?_
  refine a_aload_n C dL_law_2210 rfl ?_
  refine a_aload_n C dL_law_2211 rfl ?_
  refine a_iload C dL_law_2212 rfl ?_
  refine a_iconst C dL_law_2214 ?_
  refine a_iadd C dL_law_2215 ?_
  refine a_siald (j := i + 1) C hX hbl hbA (by omega) (by omega) (by omega) dL_law_2216 ?_
  rw [← e1]
  obtain ⟨d2, Post2, hd2, hM2, hP2⟩ := hMz ad1 g _ h4 (ML_k hI.2.1 h5)
  refine a_callV (o := 40) (As := [ii_v v1]) C hM2 co_X10_emptyByJournal in_X10 ml_L_251 im_X10_emptyByJournal se_X10_emptyByJournal rfl rfl ar_X10_emptyByJournal ⟨by omega, by decide, by omega, by omega⟩ rfl (Nat.le_of_ble_eq_true rfl) dL_law_2217 (fun ov x1 ad2 z1 hp => ?_) (fun X x1 ad2 z1 hp => by cases (hP2 _ _ _ _ hp).2.2.2.1)
  obtain ⟨m1, m2, m3, m4, m5, m6, m7⟩ := hP2 _ _ _ _ hp
  obtain ⟨h, w9⟩ := z1
  cases m4
  cases m3
  subst m1 m2
  dsimp only at m5 m6 m7
  refine a_istore (L' := [(0, .ref bS), (1, .ref (ad2 0)), (2, .ref (ad2 40)), (3, .ref (ad2 90)), (4, .ref (ad2 91)), (5, ii_v ((i : Nat) : Int)), (6, ii_v ((kk : Nat) : Int)), (7, ii_v v)]) C dL_law_2220 (by decide) rfl ?_
  refine a_aload_n C dL_law_2222 rfl ?_
  refine a_callV (o := 40) (As := []) C (m_thrown hl h _) co_X10_thrown in_X10 ml_L_148 im_X10_thrown se_X10_thrown rfl rfl ar_X10_thrown ⟨by decide, by decide, by omega, by omega⟩ rfl (Nat.le_of_ble_eq_true rfl) dL_law_2223 (a_dR ?_) a_nR
  rw [m7]
  refine a_iload C dL_law_2226 rfl ?_
  refine a_icmp_eq (tgt := 2233) C dL_law_2228 rfl (by unfold ii_B; omega) (by unfold ii_B; omega) (fun _ => ?_) (fun hz => absurd rfl hz)
  refine a_iload C dL_law_2233 rfl ?_
  refine a_if_ne (tgt := 2250) C dL_law_2235 rfl (by unfold ii_B; omega) (fun hz => ?_) (fun hz => ?_)
  · skip
    refine a_goto (tgt := 2612) C dL_law_2250 rfl ?_
    refine a_pick [0, 1, 2, 3, 4, 5] (L2 := [(0, .ref bS), (1, .ref (ad2 0)), (2, .ref (ad2 40)), (3, .ref (ad2 90)), (4, .ref (ad2 91)), (5, ii_v ((i : Nat) : Int))]) rfl ?_
    exact K _ _ _ _ _ _ _ _ ⟨CL_k h4 m6, m5, hS2⟩ h6
  · have hk0 : kk = 0 := by omega
    subst hk0
    rw [if_pos rfl, ← hkv rfl]
    refine a_aload_n C dL_law_2238 rfl ?_
    refine a_iconst C dL_law_2239 ?_
    refine a_lald C dL_law_2240 ?_
    refine a_iload C dL_law_2241 rfl ?_
    refine a_i2l C dL_law_2243 ?_
    refine a_lcmpE C dL_law_2244 ?_
    refine a_if_eq (tgt := 2250) C dL_law_2245 rfl (by unfold ii_B; omega) (fun _ => ?_) (fun hz => absurd rfl hz)
    refine a_goto (tgt := 2612) C dL_law_2250 rfl ?_
    refine a_pick [0, 1, 2, 3, 4, 5] (L2 := [(0, .ref bS), (1, .ref (ad2 0)), (2, .ref (ad2 40)), (3, .ref (ad2 90)), (4, .ref (ad2 91)), (5, ii_v ((i : Nat) : Int))]) rfl ?_
    exact K _ _ _ _ _ _ _ _ ⟨CL_k h4 m6, m5, hS2⟩ h6
theorem lc_entries {p : Program} {l : Launch} {e : Env} {s : State} {m : MethodId} {args : Array Value} {below : List Frame} {meth : Method} {c : Code} {E : ab_E} {base : Nat} {Q : State → Prop} (C : ab_C p l s m args meth c E base 8 RL cL_law (some .boolean)) (hl : l.stackTraces = false) (hN : ab_NC s) {bS Lx : Nat} {xs : Nat → Int32} (hX : va_X bS Lx xs s s.heap) (hbl : bS < s.heap.size) (hbA : ¬ ab_A base bS) (hLx : Lx ≤ 3072) {ad : Nat → Nat} {f a : Nat → Nat → Int} {TS : Nat → List Nat} {nb nr : Nat} {tm : Int} {vL : Int64} {vD : UInt64} {k n i : Nat} (hI : IS f a TS nb nr tm) (hi : i + 6 ≤ Lx) (hk : k + 4 ≤ 601024) (hn : n + 150 ≤ 7293034) (K : lw_K p l e s m args below meth c E base Q bS tm k n i) : ab_W p l e (ab_rm 20 601024 7293034) s m args below meth c E base 8 Q ab_x4 ad (f, nb, nr, vL, vD) k n 2331 [(0, .ref bS), (1, .ref (ad 0)), (2, .ref (ad 40)), (3, .ref (ad 90)), (4, .ref (ad 91)), (5, ii_v ((i : Nat) : Int))] [] := by
  obtain ⟨hC, hL, hS, htm⟩ := hI
  have hB := hS.1
  have h30 := hB.2.1
  have h06 := hB.2.2.1
  obtain ⟨ne, hjo, hsl⟩ := hB.2.2.2.2.2.2.2.2.2
  refine a_aload_n C dL_law_2331 rfl ?_
  refine a_callV (o := 0) (As := []) C (c_entries hl f (nb, nr, vL, vD)) co_X9_entries in_X9 ml_L_256 im_X9_entries se_X9_entries rfl rfl ar_X9_entries ⟨by decide, by decide, by omega, by omega⟩ rfl (Nat.le_of_ble_eq_true rfl) dL_law_2332 (a_dR ?_) a_nR
  refine a_aload_n C dL_law_2335 rfl ?_
  refine a_callV (o := 40) (As := []) C (m_entries hl f (nb, nr, vL, vD)) co_X10_entries in_X10 ml_L_259 im_X10_entries se_X10_entries rfl rfl ar_X10_entries ⟨by decide, by decide, by omega, by omega⟩ rfl (Nat.le_of_ble_eq_true rfl) dL_law_2336 (a_dR ?_) a_nR
  rw [show f 40 31 = a 4 4 from hL.1.1.2.2.1, hC.1 4 (by omega), hjo.1]
  refine a_icmp_eq (tgt := 2612) C dL_law_2339 rfl (by unfold ii_B; omega) (by unfold ii_B; omega) (fun _ => ?_) (fun hz => absurd rfl hz)
  refine ab_more (k2 := k + 4) (n2 := n + 150) (by omega) (by omega) ?_
  exact K _ _ _ _ _ _ _ _ ⟨CL_k hC (fun o ho => ii_up_row _ _ (by omega)), ML_0 hL (by decide), st_60 hS⟩ (fun _ _ => rfl)
set_option maxHeartbeats 1000000 in
theorem lc_entryBus {p : Program} {l : Launch} {e : Env} {s : State} {m : MethodId} {args : Array Value} {below : List Frame} {meth : Method} {c : Code} {E : ab_E} {base : Nat} {Q : State → Prop} (C : ab_C p l s m args meth c E base 8 RL cL_law (some .boolean)) (hl : l.stackTraces = false) (hN : ab_NC s) {bS Lx : Nat} {xs : Nat → Int32} (hX : va_X bS Lx xs s s.heap) (hbl : bS < s.heap.size) (hbA : ¬ ab_A base bS) (hLx : Lx ≤ 3072) {ad : Nat → Nat} {f a : Nat → Nat → Int} {TS : Nat → List Nat} {nb nr : Nat} {tm : Int} {vL : Int64} {vD : UInt64} {k n i : Nat} (hI : IS f a TS nb nr tm) (hi : i + 6 ≤ Lx) (hk : k + 4 ≤ 601024) (hn : n + 150 ≤ 7293034) (K : lw_K p l e s m args below meth c E base Q bS tm k n i) : ab_W p l e (ab_rm 20 601024 7293034) s m args below meth c E base 8 Q ab_x4 ad (f, nb, nr, vL, vD) k n 2344 [(0, .ref bS), (1, .ref (ad 0)), (2, .ref (ad 40)), (3, .ref (ad 90)), (4, .ref (ad 91)), (5, ii_v ((i : Nat) : Int))] [] := by
  obtain ⟨v1, e1⟩ : ∃ v : Int, v = (xs (i + 1)).toInt := ⟨_, rfl⟩
  have z1 : -2147483648 ≤ v1 ∧ v1 < 2147483648 := by rw [e1]; exact ii_Bof _
  obtain ⟨kk, u, v, a2, TS2, nb2, nr2, hS2, hkv, hkl, hZ, hMz⟩ := z_entryBus (E := E) (base := base) (ad := ad) (ol := (vL, vD)) hl hI v1 z1
  have hkl : kk ≤ 1 := hkl
  refine a_aload_n C dL_law_2344 rfl ?_
  refine a_aload_n C dL_law_2345 rfl ?_
  refine a_iload C dL_law_2346 rfl ?_
  refine a_iconst C dL_law_2348 ?_
  refine a_iadd C dL_law_2349 ?_
  refine a_siald (j := i + 1) C hX hbl hbA (by omega) (by omega) (by omega) dL_law_2350 ?_
  rw [← e1]
  refine a_aload_n C dL_law_2351 rfl ?_
  refine a_callSH (As := [.ref (ad 0), ii_v v1, .ref (ad 90)]) C hN (w_entryBus hl hkl hZ) co_L_entryBus in_L ml_L_260 sc_L_entryBus ar_L_entryBus ⟨by decide, by decide, by omega, by omega⟩ rfl (Nat.le_of_ble_eq_true rfl) dL_law_2352 (fun ov x1 ad1 z1 hp => ?_) (fun X x1 ad1 z1 hp => by cases hp.2.2.1)
  obtain ⟨h1, h2, h3, h4, h5, h6⟩ := hp
  obtain ⟨g, w9⟩ := z1
  cases h3
  cases h2
  subst h1
  dsimp only at h4 h5
  rw [← h6 0 (by decide), ← h6 40 (by decide), ← h6 90 (by decide), ← h6 91 (by decide)]
  refine a_istore (L' := [(0, .ref bS), (1, .ref (ad1 0)), (2, .ref (ad1 40)), (3, .ref (ad1 90)), (4, .ref (ad1 91)), (5, ii_v ((i : Nat) : Int)), (6, ii_v ((kk : Nat) : Int))]) C dL_law_2355 (by decide) rfl ?_
  refine a_aload_n C dL_law_2357 rfl ?_
  refine a_aload_n C dL_law_2358 rfl ?_
  refine a_iload C dL_law_2359 rfl ?_
  refine a_iconst C dL_law_2361 ?_
  refine a_iadd C dL_law_2362 ?_
  refine a_siald (j := i + 1) C hX hbl hbA (by omega) (by omega) (by omega) dL_law_2363 ?_
  rw [← e1]
  obtain ⟨d2, Post2, hd2, hM2, hP2⟩ := hMz ad1 g _ h4 (ML_k hI.2.1 h5)
  refine a_callV (o := 40) (As := [ii_v v1]) C hM2 co_X10_entryBus in_X10 ml_L_262 im_X10_entryBus se_X10_entryBus rfl rfl ar_X10_entryBus ⟨by omega, by decide, by omega, by omega⟩ rfl (Nat.le_of_ble_eq_true rfl) dL_law_2364 (fun ov x1 ad2 z1 hp => ?_) (fun X x1 ad2 z1 hp => by cases (hP2 _ _ _ _ hp).2.2.2.1)
  obtain ⟨m1, m2, m3, m4, m5, m6, m7⟩ := hP2 _ _ _ _ hp
  obtain ⟨h, w9⟩ := z1
  cases m4
  cases m3
  subst m1 m2
  dsimp only at m5 m6 m7
  refine a_istore (L' := [(0, .ref bS), (1, .ref (ad2 0)), (2, .ref (ad2 40)), (3, .ref (ad2 90)), (4, .ref (ad2 91)), (5, ii_v ((i : Nat) : Int)), (6, ii_v ((kk : Nat) : Int)), (7, ii_v v)]) C dL_law_2367 (by decide) rfl ?_
  refine a_aload_n C dL_law_2369 rfl ?_
  refine a_callV (o := 40) (As := []) C (m_thrown hl h _) co_X10_thrown in_X10 ml_L_148 im_X10_thrown se_X10_thrown rfl rfl ar_X10_thrown ⟨by decide, by decide, by omega, by omega⟩ rfl (Nat.le_of_ble_eq_true rfl) dL_law_2370 (a_dR ?_) a_nR
  rw [m7]
  refine a_iload C dL_law_2373 rfl ?_
  refine a_icmp_eq (tgt := 2380) C dL_law_2375 rfl (by unfold ii_B; omega) (by unfold ii_B; omega) (fun _ => ?_) (fun hz => absurd rfl hz)
  refine a_iload C dL_law_2380 rfl ?_
  refine a_if_ne (tgt := 2397) C dL_law_2382 rfl (by unfold ii_B; omega) (fun hz => ?_) (fun hz => ?_)
  · skip
    refine a_goto (tgt := 2612) C dL_law_2397 rfl ?_
    refine a_pick [0, 1, 2, 3, 4, 5] (L2 := [(0, .ref bS), (1, .ref (ad2 0)), (2, .ref (ad2 40)), (3, .ref (ad2 90)), (4, .ref (ad2 91)), (5, ii_v ((i : Nat) : Int))]) rfl ?_
    exact K _ _ _ _ _ _ _ _ ⟨CL_k h4 m6, m5, hS2⟩ h6
  · have hk0 : kk = 0 := by omega
    subst hk0
    rw [if_pos rfl, ← hkv rfl]
    refine a_aload_n C dL_law_2385 rfl ?_
    refine a_iconst C dL_law_2386 ?_
    refine a_lald C dL_law_2387 ?_
    refine a_iload C dL_law_2388 rfl ?_
    refine a_i2l C dL_law_2390 ?_
    refine a_lcmpE C dL_law_2391 ?_
    refine a_if_eq (tgt := 2397) C dL_law_2392 rfl (by unfold ii_B; omega) (fun _ => ?_) (fun hz => absurd rfl hz)
    refine a_goto (tgt := 2612) C dL_law_2397 rfl ?_
    refine a_pick [0, 1, 2, 3, 4, 5] (L2 := [(0, .ref bS), (1, .ref (ad2 0)), (2, .ref (ad2 40)), (3, .ref (ad2 90)), (4, .ref (ad2 91)), (5, ii_v ((i : Nat) : Int))]) rfl ?_
    exact K _ _ _ _ _ _ _ _ ⟨CL_k h4 m6, m5, hS2⟩ h6
set_option maxHeartbeats 1000000 in
theorem lc_entryRequest {p : Program} {l : Launch} {e : Env} {s : State} {m : MethodId} {args : Array Value} {below : List Frame} {meth : Method} {c : Code} {E : ab_E} {base : Nat} {Q : State → Prop} (C : ab_C p l s m args meth c E base 8 RL cL_law (some .boolean)) (hl : l.stackTraces = false) (hN : ab_NC s) {bS Lx : Nat} {xs : Nat → Int32} (hX : va_X bS Lx xs s s.heap) (hbl : bS < s.heap.size) (hbA : ¬ ab_A base bS) (hLx : Lx ≤ 3072) {ad : Nat → Nat} {f a : Nat → Nat → Int} {TS : Nat → List Nat} {nb nr : Nat} {tm : Int} {vL : Int64} {vD : UInt64} {k n i : Nat} (hI : IS f a TS nb nr tm) (hi : i + 6 ≤ Lx) (hk : k + 4 ≤ 601024) (hn : n + 150 ≤ 7293034) (K : lw_K p l e s m args below meth c E base Q bS tm k n i) : ab_W p l e (ab_rm 20 601024 7293034) s m args below meth c E base 8 Q ab_x4 ad (f, nb, nr, vL, vD) k n 2400 [(0, .ref bS), (1, .ref (ad 0)), (2, .ref (ad 40)), (3, .ref (ad 90)), (4, .ref (ad 91)), (5, ii_v ((i : Nat) : Int))] [] := by
  obtain ⟨v1, e1⟩ : ∃ v : Int, v = (xs (i + 1)).toInt := ⟨_, rfl⟩
  have z1 : -2147483648 ≤ v1 ∧ v1 < 2147483648 := by rw [e1]; exact ii_Bof _
  obtain ⟨kk, u, v, a2, TS2, nb2, nr2, hS2, hkv, hkl, hZ, hMz⟩ := z_entryRequest (E := E) (base := base) (ad := ad) (ol := (vL, vD)) hl hI v1 z1
  have hkl : kk ≤ 1 := hkl
  refine a_aload_n C dL_law_2400 rfl ?_
  refine a_aload_n C dL_law_2401 rfl ?_
  refine a_iload C dL_law_2402 rfl ?_
  refine a_iconst C dL_law_2404 ?_
  refine a_iadd C dL_law_2405 ?_
  refine a_siald (j := i + 1) C hX hbl hbA (by omega) (by omega) (by omega) dL_law_2406 ?_
  rw [← e1]
  refine a_aload_n C dL_law_2407 rfl ?_
  refine a_callSH (As := [.ref (ad 0), ii_v v1, .ref (ad 90)]) C hN (w_entryRequest hl hkl hZ) co_L_entryRequest in_L ml_L_263 sc_L_entryRequest ar_L_entryRequest ⟨by decide, by decide, by omega, by omega⟩ rfl (Nat.le_of_ble_eq_true rfl) dL_law_2408 (fun ov x1 ad1 z1 hp => ?_) (fun X x1 ad1 z1 hp => by cases hp.2.2.1)
  obtain ⟨h1, h2, h3, h4, h5, h6⟩ := hp
  obtain ⟨g, w9⟩ := z1
  cases h3
  cases h2
  subst h1
  dsimp only at h4 h5
  rw [← h6 0 (by decide), ← h6 40 (by decide), ← h6 90 (by decide), ← h6 91 (by decide)]
  refine a_istore (L' := [(0, .ref bS), (1, .ref (ad1 0)), (2, .ref (ad1 40)), (3, .ref (ad1 90)), (4, .ref (ad1 91)), (5, ii_v ((i : Nat) : Int)), (6, ii_v ((kk : Nat) : Int))]) C dL_law_2411 (by decide) rfl ?_
  refine a_aload_n C dL_law_2413 rfl ?_
  refine a_aload_n C dL_law_2414 rfl ?_
  refine a_iload C dL_law_2415 rfl ?_
  refine a_iconst C dL_law_2417 ?_
  refine a_iadd C dL_law_2418 ?_
  refine a_siald (j := i + 1) C hX hbl hbA (by omega) (by omega) (by omega) dL_law_2419 ?_
  rw [← e1]
  obtain ⟨d2, Post2, hd2, hM2, hP2⟩ := hMz ad1 g _ h4 (ML_k hI.2.1 h5)
  refine a_callV (o := 40) (As := [ii_v v1]) C hM2 co_X10_entryRequest in_X10 ml_L_265 im_X10_entryRequest se_X10_entryRequest rfl rfl ar_X10_entryRequest ⟨by omega, by decide, by omega, by omega⟩ rfl (Nat.le_of_ble_eq_true rfl) dL_law_2420 (fun ov x1 ad2 z1 hp => ?_) (fun X x1 ad2 z1 hp => by cases (hP2 _ _ _ _ hp).2.2.2.1)
  obtain ⟨m1, m2, m3, m4, m5, m6, m7⟩ := hP2 _ _ _ _ hp
  obtain ⟨h, w9⟩ := z1
  cases m4
  cases m3
  subst m1 m2
  dsimp only at m5 m6 m7
  refine a_istore (L' := [(0, .ref bS), (1, .ref (ad2 0)), (2, .ref (ad2 40)), (3, .ref (ad2 90)), (4, .ref (ad2 91)), (5, ii_v ((i : Nat) : Int)), (6, ii_v ((kk : Nat) : Int)), (7, ii_v v)]) C dL_law_2423 (by decide) rfl ?_
  refine a_aload_n C dL_law_2425 rfl ?_
  refine a_callV (o := 40) (As := []) C (m_thrown hl h _) co_X10_thrown in_X10 ml_L_148 im_X10_thrown se_X10_thrown rfl rfl ar_X10_thrown ⟨by decide, by decide, by omega, by omega⟩ rfl (Nat.le_of_ble_eq_true rfl) dL_law_2426 (a_dR ?_) a_nR
  rw [m7]
  refine a_iload C dL_law_2429 rfl ?_
  refine a_icmp_eq (tgt := 2436) C dL_law_2431 rfl (by unfold ii_B; omega) (by unfold ii_B; omega) (fun _ => ?_) (fun hz => absurd rfl hz)
  refine a_iload C dL_law_2436 rfl ?_
  refine a_if_ne (tgt := 2453) C dL_law_2438 rfl (by unfold ii_B; omega) (fun hz => ?_) (fun hz => ?_)
  · skip
    refine a_goto (tgt := 2612) C dL_law_2453 rfl ?_
    refine a_pick [0, 1, 2, 3, 4, 5] (L2 := [(0, .ref bS), (1, .ref (ad2 0)), (2, .ref (ad2 40)), (3, .ref (ad2 90)), (4, .ref (ad2 91)), (5, ii_v ((i : Nat) : Int))]) rfl ?_
    exact K _ _ _ _ _ _ _ _ ⟨CL_k h4 m6, m5, hS2⟩ h6
  · have hk0 : kk = 0 := by omega
    subst hk0
    rw [if_pos rfl, ← hkv rfl]
    refine a_aload_n C dL_law_2441 rfl ?_
    refine a_iconst C dL_law_2442 ?_
    refine a_lald C dL_law_2443 ?_
    refine a_iload C dL_law_2444 rfl ?_
    refine a_i2l C dL_law_2446 ?_
    refine a_lcmpE C dL_law_2447 ?_
    refine a_if_eq (tgt := 2453) C dL_law_2448 rfl (by unfold ii_B; omega) (fun _ => ?_) (fun hz => absurd rfl hz)
    refine a_goto (tgt := 2612) C dL_law_2453 rfl ?_
    refine a_pick [0, 1, 2, 3, 4, 5] (L2 := [(0, .ref bS), (1, .ref (ad2 0)), (2, .ref (ad2 40)), (3, .ref (ad2 90)), (4, .ref (ad2 91)), (5, ii_v ((i : Nat) : Int))]) rfl ?_
    exact K _ _ _ _ _ _ _ _ ⟨CL_k h4 m6, m5, hS2⟩ h6
set_option maxHeartbeats 1000000 in
theorem lc_entryTime {p : Program} {l : Launch} {e : Env} {s : State} {m : MethodId} {args : Array Value} {below : List Frame} {meth : Method} {c : Code} {E : ab_E} {base : Nat} {Q : State → Prop} (C : ab_C p l s m args meth c E base 8 RL cL_law (some .boolean)) (hl : l.stackTraces = false) (hN : ab_NC s) {bS Lx : Nat} {xs : Nat → Int32} (hX : va_X bS Lx xs s s.heap) (hbl : bS < s.heap.size) (hbA : ¬ ab_A base bS) (hLx : Lx ≤ 3072) {ad : Nat → Nat} {f a : Nat → Nat → Int} {TS : Nat → List Nat} {nb nr : Nat} {tm : Int} {vL : Int64} {vD : UInt64} {k n i : Nat} (hI : IS f a TS nb nr tm) (hi : i + 6 ≤ Lx) (hk : k + 4 ≤ 601024) (hn : n + 150 ≤ 7293034) (K : lw_K p l e s m args below meth c E base Q bS tm k n i) : ab_W p l e (ab_rm 20 601024 7293034) s m args below meth c E base 8 Q ab_x4 ad (f, nb, nr, vL, vD) k n 2456 [(0, .ref bS), (1, .ref (ad 0)), (2, .ref (ad 40)), (3, .ref (ad 90)), (4, .ref (ad 91)), (5, ii_v ((i : Nat) : Int))] [] := by
  obtain ⟨v1, e1⟩ : ∃ v : Int, v = (xs (i + 1)).toInt := ⟨_, rfl⟩
  have z1 : -2147483648 ≤ v1 ∧ v1 < 2147483648 := by rw [e1]; exact ii_Bof _
  obtain ⟨kk, u, v, a2, TS2, nb2, nr2, hS2, hkv, hkl, hZ, hMz⟩ := z_entryTime (E := E) (base := base) (ad := ad) (ol := (vL, vD)) hl hI v1 z1
  have hkl : kk ≤ 1 := hkl
  refine a_aload_n C dL_law_2456 rfl ?_
  refine a_aload_n C dL_law_2457 rfl ?_
  refine a_iload C dL_law_2458 rfl ?_
  refine a_iconst C dL_law_2460 ?_
  refine a_iadd C dL_law_2461 ?_
  refine a_siald (j := i + 1) C hX hbl hbA (by omega) (by omega) (by omega) dL_law_2462 ?_
  rw [← e1]
  refine a_aload_n C dL_law_2463 rfl ?_
  refine a_callSH (As := [.ref (ad 0), ii_v v1, .ref (ad 90)]) C hN (w_entryTime hl hkl hZ) co_L_entryTime in_L ml_L_266 sc_L_entryTime ar_L_entryTime ⟨by decide, by decide, by omega, by omega⟩ rfl (Nat.le_of_ble_eq_true rfl) dL_law_2464 (fun ov x1 ad1 z1 hp => ?_) (fun X x1 ad1 z1 hp => by cases hp.2.2.1)
  obtain ⟨h1, h2, h3, h4, h5, h6⟩ := hp
  obtain ⟨g, w9⟩ := z1
  cases h3
  cases h2
  subst h1
  dsimp only at h4 h5
  rw [← h6 0 (by decide), ← h6 40 (by decide), ← h6 90 (by decide), ← h6 91 (by decide)]
  refine a_istore (L' := [(0, .ref bS), (1, .ref (ad1 0)), (2, .ref (ad1 40)), (3, .ref (ad1 90)), (4, .ref (ad1 91)), (5, ii_v ((i : Nat) : Int)), (6, ii_v ((kk : Nat) : Int))]) C dL_law_2467 (by decide) rfl ?_
  refine a_aload_n C dL_law_2469 rfl ?_
  refine a_aload_n C dL_law_2470 rfl ?_
  refine a_iload C dL_law_2471 rfl ?_
  refine a_iconst C dL_law_2473 ?_
  refine a_iadd C dL_law_2474 ?_
  refine a_siald (j := i + 1) C hX hbl hbA (by omega) (by omega) (by omega) dL_law_2475 ?_
  rw [← e1]
  obtain ⟨d2, Post2, hd2, hM2, hP2⟩ := hMz ad1 g _ h4 (ML_k hI.2.1 h5)
  refine a_callV (o := 40) (As := [ii_v v1]) C hM2 co_X10_entryTime in_X10 ml_L_268 im_X10_entryTime se_X10_entryTime rfl rfl ar_X10_entryTime ⟨by omega, by decide, by omega, by omega⟩ rfl (Nat.le_of_ble_eq_true rfl) dL_law_2476 (fun ov x1 ad2 z1 hp => ?_) (fun X x1 ad2 z1 hp => by cases (hP2 _ _ _ _ hp).2.2.2.1)
  obtain ⟨m1, m2, m3, m4, m5, m6, m7⟩ := hP2 _ _ _ _ hp
  obtain ⟨h, w9⟩ := z1
  cases m4
  cases m3
  subst m1 m2
  dsimp only at m5 m6 m7
  refine a_istore (L' := [(0, .ref bS), (1, .ref (ad2 0)), (2, .ref (ad2 40)), (3, .ref (ad2 90)), (4, .ref (ad2 91)), (5, ii_v ((i : Nat) : Int)), (6, ii_v ((kk : Nat) : Int)), (7, ii_v v)]) C dL_law_2479 (by decide) rfl ?_
  refine a_aload_n C dL_law_2481 rfl ?_
  refine a_callV (o := 40) (As := []) C (m_thrown hl h _) co_X10_thrown in_X10 ml_L_148 im_X10_thrown se_X10_thrown rfl rfl ar_X10_thrown ⟨by decide, by decide, by omega, by omega⟩ rfl (Nat.le_of_ble_eq_true rfl) dL_law_2482 (a_dR ?_) a_nR
  rw [m7]
  refine a_iload C dL_law_2485 rfl ?_
  refine a_icmp_eq (tgt := 2492) C dL_law_2487 rfl (by unfold ii_B; omega) (by unfold ii_B; omega) (fun _ => ?_) (fun hz => absurd rfl hz)
  refine a_iload C dL_law_2492 rfl ?_
  refine a_if_ne (tgt := 2509) C dL_law_2494 rfl (by unfold ii_B; omega) (fun hz => ?_) (fun hz => ?_)
  · skip
    refine a_goto (tgt := 2612) C dL_law_2509 rfl ?_
    refine a_pick [0, 1, 2, 3, 4, 5] (L2 := [(0, .ref bS), (1, .ref (ad2 0)), (2, .ref (ad2 40)), (3, .ref (ad2 90)), (4, .ref (ad2 91)), (5, ii_v ((i : Nat) : Int))]) rfl ?_
    exact K _ _ _ _ _ _ _ _ ⟨CL_k h4 m6, m5, hS2⟩ h6
  · have hk0 : kk = 0 := by omega
    subst hk0
    rw [if_pos rfl, ← hkv rfl]
    refine a_aload_n C dL_law_2497 rfl ?_
    refine a_iconst C dL_law_2498 ?_
    refine a_lald C dL_law_2499 ?_
    refine a_iload C dL_law_2500 rfl ?_
    refine a_i2l C dL_law_2502 ?_
    refine a_lcmpE C dL_law_2503 ?_
    refine a_if_eq (tgt := 2509) C dL_law_2504 rfl (by unfold ii_B; omega) (fun _ => ?_) (fun hz => absurd rfl hz)
    refine a_goto (tgt := 2612) C dL_law_2509 rfl ?_
    refine a_pick [0, 1, 2, 3, 4, 5] (L2 := [(0, .ref bS), (1, .ref (ad2 0)), (2, .ref (ad2 40)), (3, .ref (ad2 90)), (4, .ref (ad2 91)), (5, ii_v ((i : Nat) : Int))]) rfl ?_
    exact K _ _ _ _ _ _ _ _ ⟨CL_k h4 m6, m5, hS2⟩ h6
set_option maxHeartbeats 1000000 in
theorem lc_entryDistance {p : Program} {l : Launch} {e : Env} {s : State} {m : MethodId} {args : Array Value} {below : List Frame} {meth : Method} {c : Code} {E : ab_E} {base : Nat} {Q : State → Prop} (C : ab_C p l s m args meth c E base 8 RL cL_law (some .boolean)) (hl : l.stackTraces = false) (hN : ab_NC s) {bS Lx : Nat} {xs : Nat → Int32} (hX : va_X bS Lx xs s s.heap) (hbl : bS < s.heap.size) (hbA : ¬ ab_A base bS) (hLx : Lx ≤ 3072) {ad : Nat → Nat} {f a : Nat → Nat → Int} {TS : Nat → List Nat} {nb nr : Nat} {tm : Int} {vL : Int64} {vD : UInt64} {k n i : Nat} (hI : IS f a TS nb nr tm) (hi : i + 6 ≤ Lx) (hk : k + 4 ≤ 601024) (hn : n + 150 ≤ 7293034) (K : lw_K p l e s m args below meth c E base Q bS tm k n i) : ab_W p l e (ab_rm 20 601024 7293034) s m args below meth c E base 8 Q ab_x4 ad (f, nb, nr, vL, vD) k n 2512 [(0, .ref bS), (1, .ref (ad 0)), (2, .ref (ad 40)), (3, .ref (ad 90)), (4, .ref (ad 91)), (5, ii_v ((i : Nat) : Int))] [] := by
  obtain ⟨v1, e1⟩ : ∃ v : Int, v = (xs (i + 1)).toInt := ⟨_, rfl⟩
  have z1 : -2147483648 ≤ v1 ∧ v1 < 2147483648 := by rw [e1]; exact ii_Bof _
  obtain ⟨kk, u, v, a2, TS2, nb2, nr2, hS2, hkv, hkl, hZ, hMz⟩ := z_entryDistance (E := E) (base := base) (ad := ad) (ol := (vL, vD)) hl hI v1 z1
  have hkl : kk ≤ 1 := hkl
  refine a_aload_n C dL_law_2512 rfl ?_
  refine a_aload_n C dL_law_2513 rfl ?_
  refine a_iload C dL_law_2514 rfl ?_
  refine a_iconst C dL_law_2516 ?_
  refine a_iadd C dL_law_2517 ?_
  refine a_siald (j := i + 1) C hX hbl hbA (by omega) (by omega) (by omega) dL_law_2518 ?_
  rw [← e1]
  refine a_aload_n C dL_law_2519 rfl ?_
  refine a_callSH (As := [.ref (ad 0), ii_v v1, .ref (ad 90)]) C hN (w_entryDistance hl hkl hZ) co_L_entryDistance in_L ml_L_269 sc_L_entryDistance ar_L_entryDistance ⟨by decide, by decide, by omega, by omega⟩ rfl (Nat.le_of_ble_eq_true rfl) dL_law_2520 (fun ov x1 ad1 z1 hp => ?_) (fun X x1 ad1 z1 hp => by cases hp.2.2.1)
  obtain ⟨h1, h2, h3, h4, h5, h6⟩ := hp
  obtain ⟨g, w9⟩ := z1
  cases h3
  cases h2
  subst h1
  dsimp only at h4 h5
  rw [← h6 0 (by decide), ← h6 40 (by decide), ← h6 90 (by decide), ← h6 91 (by decide)]
  refine a_istore (L' := [(0, .ref bS), (1, .ref (ad1 0)), (2, .ref (ad1 40)), (3, .ref (ad1 90)), (4, .ref (ad1 91)), (5, ii_v ((i : Nat) : Int)), (6, ii_v ((kk : Nat) : Int))]) C dL_law_2523 (by decide) rfl ?_
  refine a_aload_n C dL_law_2525 rfl ?_
  refine a_aload_n C dL_law_2526 rfl ?_
  refine a_iload C dL_law_2527 rfl ?_
  refine a_iconst C dL_law_2529 ?_
  refine a_iadd C dL_law_2530 ?_
  refine a_siald (j := i + 1) C hX hbl hbA (by omega) (by omega) (by omega) dL_law_2531 ?_
  rw [← e1]
  obtain ⟨d2, Post2, hd2, hM2, hP2⟩ := hMz ad1 g _ h4 (ML_k hI.2.1 h5)
  refine a_callV (o := 40) (As := [ii_v v1]) C hM2 co_X10_entryDistance in_X10 ml_L_271 im_X10_entryDistance se_X10_entryDistance rfl rfl ar_X10_entryDistance ⟨by omega, by decide, by omega, by omega⟩ rfl (Nat.le_of_ble_eq_true rfl) dL_law_2532 (fun ov x1 ad2 z1 hp => ?_) (fun X x1 ad2 z1 hp => by cases (hP2 _ _ _ _ hp).2.2.2.1)
  obtain ⟨m1, m2, m3, m4, m5, m6, m7⟩ := hP2 _ _ _ _ hp
  obtain ⟨h, w9⟩ := z1
  cases m4
  cases m3
  subst m1 m2
  dsimp only at m5 m6 m7
  refine a_istore (L' := [(0, .ref bS), (1, .ref (ad2 0)), (2, .ref (ad2 40)), (3, .ref (ad2 90)), (4, .ref (ad2 91)), (5, ii_v ((i : Nat) : Int)), (6, ii_v ((kk : Nat) : Int)), (7, ii_v v)]) C dL_law_2535 (by decide) rfl ?_
  refine a_aload_n C dL_law_2537 rfl ?_
  refine a_callV (o := 40) (As := []) C (m_thrown hl h _) co_X10_thrown in_X10 ml_L_148 im_X10_thrown se_X10_thrown rfl rfl ar_X10_thrown ⟨by decide, by decide, by omega, by omega⟩ rfl (Nat.le_of_ble_eq_true rfl) dL_law_2538 (a_dR ?_) a_nR
  rw [m7]
  refine a_iload C dL_law_2541 rfl ?_
  refine a_icmp_eq (tgt := 2548) C dL_law_2543 rfl (by unfold ii_B; omega) (by unfold ii_B; omega) (fun _ => ?_) (fun hz => absurd rfl hz)
  refine a_iload C dL_law_2548 rfl ?_
  refine a_if_ne (tgt := 2565) C dL_law_2550 rfl (by unfold ii_B; omega) (fun hz => ?_) (fun hz => ?_)
  · skip
    refine a_goto (tgt := 2612) C dL_law_2565 rfl ?_
    refine a_pick [0, 1, 2, 3, 4, 5] (L2 := [(0, .ref bS), (1, .ref (ad2 0)), (2, .ref (ad2 40)), (3, .ref (ad2 90)), (4, .ref (ad2 91)), (5, ii_v ((i : Nat) : Int))]) rfl ?_
    exact K _ _ _ _ _ _ _ _ ⟨CL_k h4 m6, m5, hS2⟩ h6
  · have hk0 : kk = 0 := by omega
    subst hk0
    rw [if_pos rfl, ← hkv rfl]
    refine a_aload_n C dL_law_2553 rfl ?_
    refine a_iconst C dL_law_2554 ?_
    refine a_lald C dL_law_2555 ?_
    refine a_iload C dL_law_2556 rfl ?_
    refine a_i2l C dL_law_2558 ?_
    refine a_lcmpE C dL_law_2559 ?_
    refine a_if_eq (tgt := 2565) C dL_law_2560 rfl (by unfold ii_B; omega) (fun _ => ?_) (fun hz => absurd rfl hz)
    refine a_goto (tgt := 2612) C dL_law_2565 rfl ?_
    refine a_pick [0, 1, 2, 3, 4, 5] (L2 := [(0, .ref bS), (1, .ref (ad2 0)), (2, .ref (ad2 40)), (3, .ref (ad2 90)), (4, .ref (ad2 91)), (5, ii_v ((i : Nat) : Int))]) rfl ?_
    exact K _ _ _ _ _ _ _ _ ⟨CL_k h4 m6, m5, hS2⟩ h6
set_option maxHeartbeats 1000000 in
theorem lc_worstRide {p : Program} {l : Launch} {e : Env} {s : State} {m : MethodId} {args : Array Value} {below : List Frame} {meth : Method} {c : Code} {E : ab_E} {base : Nat} {Q : State → Prop} (C : ab_C p l s m args meth c E base 8 RL cL_law (some .boolean)) (hl : l.stackTraces = false) (hN : ab_NC s) {bS Lx : Nat} {xs : Nat → Int32} (hX : va_X bS Lx xs s s.heap) (hbl : bS < s.heap.size) (hbA : ¬ ab_A base bS) (hLx : Lx ≤ 3072) {ad : Nat → Nat} {f a : Nat → Nat → Int} {TS : Nat → List Nat} {nb nr : Nat} {tm : Int} {vL : Int64} {vD : UInt64} {k n i : Nat} (hI : IS f a TS nb nr tm) (hi : i + 6 ≤ Lx) (hk : k + 4 ≤ 601024) (hn : n + 150 ≤ 7293034) (K : lw_K p l e s m args below meth c E base Q bS tm k n i) : ab_W p l e (ab_rm 20 601024 7293034) s m args below meth c E base 8 Q ab_x4 ad (f, nb, nr, vL, vD) k n 2568 [(0, .ref bS), (1, .ref (ad 0)), (2, .ref (ad 40)), (3, .ref (ad 90)), (4, .ref (ad 91)), (5, ii_v ((i : Nat) : Int))] [] := by
  obtain ⟨kk, u, v, a2, TS2, nb2, nr2, hS2, hkv, hkl, hZ, hMz⟩ := z_worstRide (E := E) (base := base) (ad := ad) (ol := (vL, vD)) hl hI 
  have hkl : kk ≤ 1 := hkl
  refine a_aload_n C dL_law_2568 rfl ?_
  refine a_aload_n C dL_law_2569 rfl ?_
  refine a_callSH (As := [.ref (ad 0), .ref (ad 90)]) C hN (w_worstRide hl hkl hZ) co_L_worstRide in_L ml_L_272 sc_L_worstRide ar_L_worstRide ⟨by decide, by decide, by omega, by omega⟩ rfl (Nat.le_of_ble_eq_true rfl) dL_law_2570 (fun ov x1 ad1 z1 hp => ?_) (fun X x1 ad1 z1 hp => by cases hp.2.2.1)
  obtain ⟨h1, h2, h3, h4, h5, h6⟩ := hp
  obtain ⟨g, w9⟩ := z1
  cases h3
  cases h2
  subst h1
  dsimp only at h4 h5
  rw [← h6 0 (by decide), ← h6 40 (by decide), ← h6 90 (by decide), ← h6 91 (by decide)]
  refine a_istore (L' := [(0, .ref bS), (1, .ref (ad1 0)), (2, .ref (ad1 40)), (3, .ref (ad1 90)), (4, .ref (ad1 91)), (5, ii_v ((i : Nat) : Int)), (6, ii_v ((kk : Nat) : Int))]) C dL_law_2573 (by decide) rfl ?_
  refine a_aload_n C dL_law_2575 rfl ?_
  obtain ⟨d2, Post2, hd2, hM2, hP2⟩ := hMz ad1 g _ h4 (ML_k hI.2.1 h5)
  refine a_callV (o := 40) (As := []) C hM2 co_X10_worstRide in_X10 ml_L_275 im_X10_worstRide se_X10_worstRide rfl rfl ar_X10_worstRide ⟨by omega, by decide, by omega, by omega⟩ rfl (Nat.le_of_ble_eq_true rfl) dL_law_2576 (fun ov x1 ad2 z1 hp => ?_) (fun X x1 ad2 z1 hp => by cases (hP2 _ _ _ _ hp).2.2.2.1)
  obtain ⟨m1, m2, m3, m4, m5, m6, m7⟩ := hP2 _ _ _ _ hp
  obtain ⟨h, w9⟩ := z1
  cases m4
  cases m3
  subst m1 m2
  dsimp only at m5 m6 m7
  refine a_istore (L' := [(0, .ref bS), (1, .ref (ad2 0)), (2, .ref (ad2 40)), (3, .ref (ad2 90)), (4, .ref (ad2 91)), (5, ii_v ((i : Nat) : Int)), (6, ii_v ((kk : Nat) : Int)), (7, ii_v v)]) C dL_law_2579 (by decide) rfl ?_
  refine a_aload_n C dL_law_2581 rfl ?_
  refine a_callV (o := 40) (As := []) C (m_thrown hl h _) co_X10_thrown in_X10 ml_L_148 im_X10_thrown se_X10_thrown rfl rfl ar_X10_thrown ⟨by decide, by decide, by omega, by omega⟩ rfl (Nat.le_of_ble_eq_true rfl) dL_law_2582 (a_dR ?_) a_nR
  rw [m7]
  refine a_iload C dL_law_2585 rfl ?_
  refine a_icmp_eq (tgt := 2592) C dL_law_2587 rfl (by unfold ii_B; omega) (by unfold ii_B; omega) (fun _ => ?_) (fun hz => absurd rfl hz)
  refine a_iload C dL_law_2592 rfl ?_
  refine a_if_ne (tgt := 2609) C dL_law_2594 rfl (by unfold ii_B; omega) (fun hz => ?_) (fun hz => ?_)
  · skip
    refine a_goto (tgt := 2612) C dL_law_2609 rfl ?_
    refine a_pick [0, 1, 2, 3, 4, 5] (L2 := [(0, .ref bS), (1, .ref (ad2 0)), (2, .ref (ad2 40)), (3, .ref (ad2 90)), (4, .ref (ad2 91)), (5, ii_v ((i : Nat) : Int))]) rfl ?_
    exact K _ _ _ _ _ _ _ _ ⟨CL_k h4 m6, m5, hS2⟩ h6
  · have hk0 : kk = 0 := by omega
    subst hk0
    rw [if_pos rfl, ← hkv rfl]
    refine a_aload_n C dL_law_2597 rfl ?_
    refine a_iconst C dL_law_2598 ?_
    refine a_lald C dL_law_2599 ?_
    refine a_iload C dL_law_2600 rfl ?_
    refine a_i2l C dL_law_2602 ?_
    refine a_lcmpE C dL_law_2603 ?_
    refine a_if_eq (tgt := 2609) C dL_law_2604 rfl (by unfold ii_B; omega) (fun _ => ?_) (fun hz => absurd rfl hz)
    refine a_goto (tgt := 2612) C dL_law_2609 rfl ?_
    refine a_pick [0, 1, 2, 3, 4, 5] (L2 := [(0, .ref bS), (1, .ref (ad2 0)), (2, .ref (ad2 40)), (3, .ref (ad2 90)), (4, .ref (ad2 91)), (5, ii_v ((i : Nat) : Int))]) rfl ?_
    exact K _ _ _ _ _ _ _ _ ⟨CL_k h4 m6, m5, hS2⟩ h6
