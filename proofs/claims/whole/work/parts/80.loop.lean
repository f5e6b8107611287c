/-! The loop of the law. -/
set_option maxRecDepth 20000 in
set_option maxHeartbeats 4000000 in
theorem lw_loop {p : Program} {l : Launch} {e : Env} {s : State} {m : MethodId} {args : Array Value} {below : List Frame} {meth : Method} {c : Code} {E : ab_E} {base : Nat} {Q : State → Prop} (C : ab_C p l s m args meth c E base 8 RL cL_law (some .boolean)) (hl : l.stackTraces = false) (hN : ab_NC s) {bS Lx : Nat} {xs : Nat → Int32} (hX : va_X bS Lx xs s s.heap) (hbl : bS < s.heap.size) (hbA : ¬ ab_A base bS) (hLx : Lx ≤ 3072) (hF : ∀ x y : Int32, 0 < y.toInt → vf_n32 (FP.fdiv (FP.i2f x) (FP.i2f y)) ∧ vf_n64 (FP.f2d (FP.fdiv (FP.i2f x) (FP.i2f y))) ∧ Op.cmpValue (FP.dcmp (FP.f2d (FP.fdiv (FP.i2f x) (FP.i2f y))) (FP.f2d (FP.fdiv (FP.i2f x) (FP.i2f y)))) .l = ii_n 0)
    (KE : ∀ (ad : Nat → Nat) (z : ab_H) (k n : Nat) (L : List (Nat × Value)), k ≤ 601024 → n ≤ 7293034 → ab_W p l e (ab_rm 20 601024 7293034) s m args below meth c E base 8 Q ab_x4 ad z k n 2618 L []) : ∀ (M j : Nat) (ad : Nat → Nat) (f a : Nat → Nat → Int) (TS : Nat → List Nat) (nb nr : Nat) (ol : Int64 × UInt64) (k n : Nat), M + j = 513 → IS f a TS nb nr (60 * (j : Int)) → k ≤ 200 + 4 * j → n ≤ 5000 + 150 * j → ab_W p l e (ab_rm 20 601024 7293034) s m args below meth c E base 8 Q ab_x4 ad (f, nb, nr, ol) k n 28 [(0, .ref bS), (1, .ref (ad 0)), (2, .ref (ad 40)), (3, .ref (ad 90)), (4, .ref (ad 91)), (5, ii_v ((6 * j : Nat) : Int))] []
  | M, j, ad, f, a, TS, nb, nr, ol, k, n, hM, hI, hk, hn => by
    obtain ⟨vL, vD⟩ := ol
    refine a_iload C dL_law_28 rfl ?_
    refine a_aload_n C dL_law_30 rfl ?_
    refine a_salen C hX hbl hbA dL_law_31 ?_
    refine a_bipush C dL_law_32 (by decide) ?_
    refine a_isub C dL_law_34 ?_
    have hj : (6 * j : Nat) ≤ 3078 := by omega
    refine a_icmp_gt (tgt := 2618) C dL_law_35 rfl (by unfold ii_B; omega) (by unfold ii_B; omega) (fun _ => KE _ _ _ _ _ (by omega) (by omega)) (fun hle => ?_)
    have hi : 6 * j + 6 ≤ Lx := by omega
    have hj2 : j ≤ 511 := by omega
    have hK : lw_K p l e s m args below meth c E base Q bS (60 * (j : Int)) k n (6 * j) := by
      intro ad0 ad1 f1 a1 TS1 nb1 nr1 ol1 hI1 _
      refine a_iinc (L' := [(0, .ref bS), (1, .ref (ad1 0)), (2, .ref (ad1 40)), (3, .ref (ad1 90)), (4, .ref (ad1 91)), (5, ii_v (((6 * j : Nat) : Int) + 6))]) C dL_law_2612 rfl (by decide) rfl ?_
      refine a_goto (tgt := 28) C dL_law_2615 rfl ?_
      rw [show ((6 * j : Nat) : Int) + 6 = ((6 * (j + 1) : Nat) : Int) by omega]
      match M, hM with
      | 0, hM => omega
      | M + 1, hM => exact lw_loop C hl hN hX hbl hbA hLx hF KE M (j + 1) ad1 f1 a1 TS1 nb1 nr1 ol1 (k + 4) (n + 150) (by omega) ⟨hI1.1, hI1.2.1, by have := hI1.2.2; rw [show 60 * (((j + 1 : Nat)) : Int) = 60 * (j : Int) + 60 by omega]; exact this, by omega⟩ (by omega) (by omega)
    refine a_aload_n C dL_law_38 rfl ?_
    refine a_iload C dL_law_39 rfl ?_
    refine a_siald (j := 6 * j) C hX hbl hbA rfl (by omega) (by omega) dL_law_41 ?_
    refine a_bipush C dL_law_42 (by decide) ?_
    obtain ⟨t, et⟩ : ∃ t : Int, t = (ii_n (xs (6 * j)).toInt &&& ii_n 63).toInt := ⟨_, rfl⟩
    refine a_iand (b := t) C dL_law_44 (by rw [et]; exact ii_of _) ?_
    have ht : ii_B t := by rw [et]; exact ii_Bof _
    by_cases h0 : t = 0
    · refine a_tswIn (tgt := 220) 175 C dL_law_45 ht (by omega) (by omega) (by rw [h0]; rfl) rfl ?_
      exact lc_setDetour C hl hN hX hbl hbA hLx hI hi (by omega) (by omega) hK
    by_cases h1 : t = 1
    · refine a_tswIn (tgt := 276) 231 C dL_law_45 ht (by omega) (by omega) (by rw [h1]; rfl) rfl ?_
      exact lc_setWait C hl hN hX hbl hbA hLx hI hi (by omega) (by omega) hK
    by_cases h2 : t = 2
    · refine a_tswIn (tgt := 332) 287 C dL_law_45 ht (by omega) (by omega) (by rw [h2]; rfl) rfl ?_
      exact lc_addBus C hl hN hX hbl hbA hLx hI hi (by omega) (by omega) hK
    by_cases h3 : t = 3
    · refine a_tswIn (tgt := 424) 379 C dL_law_45 ht (by omega) (by omega) (by rw [h3]; rfl) rfl ?_
      exact lc_request C hl hN hX hbl hbA hLx hI hi (by omega) (by omega) hK
    by_cases h4 : t = 4
    · refine a_tswIn (tgt := 528) 483 C dL_law_45 ht (by omega) (by omega) (by rw [h4]; rfl) rfl ?_
      exact lc_quote C hl hN hX hbl hbA hLx hI hi (by omega) (by omega) hK
    by_cases h5 : t = 5
    · refine a_tswIn (tgt := 632) 587 C dL_law_45 ht (by omega) (by omega) (by rw [h5]; rfl) rfl ?_
      exact lc_quoteByTrying C hl hN hX hbl hbA hLx hI hi (by omega) (by omega) hK
    by_cases h6 : t = 6
    · refine a_tswIn (tgt := 736) 691 C dL_law_45 ht (by omega) (by omega) (by rw [h6]; rfl) rfl ?_
      exact lc_quotedBus C hl hN hX hbl hbA hLx hI hi (by omega) (by omega) hK
    by_cases h7 : t = 7
    · refine a_tswIn (tgt := 840) 795 C dL_law_45 ht (by omega) (by omega) (by rw [h7]; rfl) rfl ?_
      exact lc_cancel C hl hN hX hbl hbA hLx hI hi (by omega) (by omega) hK
    by_cases h8 : t = 8
    · refine a_tswIn (tgt := 896) 851 C dL_law_45 ht (by omega) (by omega) (by rw [h8]; rfl) rfl ?_
      exact lc_status C hl hN hX hbl hbA hLx hI hi (by omega) (by omega) hK
    by_cases h9 : t = 9
    · refine a_tswIn (tgt := 952) 907 C dL_law_45 ht (by omega) (by omega) (by rw [h9]; rfl) rfl ?_
      exact lc_reason C hl hN hX hbl hbA hLx hI hi (by omega) (by omega) hK
    by_cases h10 : t = 10
    · refine a_tswIn (tgt := 1008) 963 C dL_law_45 ht (by omega) (by omega) (by rw [h10]; rfl) rfl ?_
      exact lc_busOf C hl hN hX hbl hbA hLx hI hi (by omega) (by omega) hK
    by_cases h11 : t = 11
    · refine a_tswIn (tgt := 1064) 1019 C dL_law_45 ht (by omega) (by omega) (by rw [h11]; rfl) rfl ?_
      exact lc_latestPickup C hl hN hX hbl hbA hLx hI hi (by omega) (by omega) hK
    by_cases h12 : t = 12
    · refine a_tswIn (tgt := 1120) 1075 C dL_law_45 ht (by omega) (by omega) (by rw [h12]; rfl) rfl ?_
      exact lc_longestRide C hl hN hX hbl hbA hLx hI hi (by omega) (by omega) hK
    by_cases h13 : t = 13
    · refine a_tswIn (tgt := 1176) 1131 C dL_law_45 ht (by omega) (by omega) (by rw [h13]; rfl) rfl ?_
      exact lc_pickupTime C hl hN hX hbl hbA hLx hI hi (by omega) (by omega) hK
    by_cases h14 : t = 14
    · refine a_tswIn (tgt := 1232) 1187 C dL_law_45 ht (by omega) (by omega) (by rw [h14]; rfl) rfl ?_
      exact lc_dropTime C hl hN hX hbl hbA hLx hI hi (by omega) (by omega) hK
    by_cases h15 : t = 15
    · refine a_tswIn (tgt := 1288) 1243 C dL_law_45 ht (by omega) (by omega) (by rw [h15]; rfl) rfl ?_
      exact lc_requests C hl hN hX hbl hbA hLx hI hi (by omega) (by omega) hK
    by_cases h16 : t = 16
    · refine a_tswIn (tgt := 1301) 1256 C dL_law_45 ht (by omega) (by omega) (by rw [h16]; rfl) rfl ?_
      exact lc_stops C hl hN hX hbl hbA hLx hI hi (by omega) (by omega) hK
    by_cases h17 : t = 17
    · refine a_tswIn (tgt := 1357) 1312 C dL_law_45 ht (by omega) (by omega) (by rw [h17]; rfl) rfl ?_
      exact lc_stopRequest C hl hN hX hbl hbA hLx hI hi (by omega) (by omega) hK
    by_cases h18 : t = 18
    · refine a_tswIn (tgt := 1425) 1380 C dL_law_45 ht (by omega) (by omega) (by rw [h18]; rfl) rfl ?_
      exact lc_isPickup C hl hN hX hbl hbA hLx hI hi (by omega) (by omega) hK
    by_cases h19 : t = 19
    · refine a_tswIn (tgt := 1500) 1455 C dL_law_45 ht (by omega) (by omega) (by rw [h19]; rfl) rfl ?_
      exact lc_stopTime C hl hN hX hbl hbA hLx hI hi (by omega) (by omega) hK
    by_cases h20 : t = 20
    · refine a_tswIn (tgt := 1568) 1523 C dL_law_45 ht (by omega) (by omega) (by rw [h20]; rfl) rfl ?_
      exact lc_length C hl hN hX hbl hbA hLx hI hi (by omega) (by omega) hK
    by_cases h21 : t = 21
    · refine a_tswIn (tgt := 1624) 1579 C dL_law_45 ht (by omega) (by omega) (by rw [h21]; rfl) rfl ?_
      exact lc_bestLength C hl hN hX hbl hbA hLx hI hi (by omega) (by omega) hK
    by_cases h22 : t = 22
    · refine a_tswIn (tgt := 1680) 1635 C dL_law_45 ht (by omega) (by omega) (by rw [h22]; rfl) rfl ?_
      exact lc_bestLengthByTrying C hl hN hX hbl hbA hLx hI hi (by omega) (by omega) hK
    by_cases h23 : t = 23
    · refine a_tswIn (tgt := 1736) 1691 C dL_law_45 ht (by omega) (by omega) (by rw [h23]; rfl) rfl ?_
      exact lc_improve C hl hN hX hbl hbA hLx hI hi (by omega) (by omega) hK
    by_cases h24 : t = 24
    · refine a_tswIn (tgt := 1792) 1747 C dL_law_45 ht (by omega) (by omega) (by rw [h24]; rfl) rfl ?_
      exact lc_pass C hl hN hX hbl hbA hLx hI hi (by omega) (by omega) hK
    by_cases h25 : t = 25
    · refine a_tswIn (tgt := 1848) 1803 C dL_law_45 ht (by omega) (by omega) (by rw [h25]; rfl) rfl ?_
      exact lc_now C hl hN hX hbl hbA hLx hI hi (by omega) (by omega) hK
    by_cases h26 : t = 26
    · refine a_tswIn (tgt := 1861) 1816 C dL_law_45 ht (by omega) (by omega) (by rw [h26]; rfl) rfl ?_
      exact lc_x C hl hN hX hbl hbA hLx hI hi (by omega) (by omega) hK
    by_cases h27 : t = 27
    · refine a_tswIn (tgt := 1917) 1872 C dL_law_45 ht (by omega) (by omega) (by rw [h27]; rfl) rfl ?_
      exact lc_y C hl hN hX hbl hbA hLx hI hi (by omega) (by omega) hK
    by_cases h28 : t = 28
    · refine a_tswIn (tgt := 1973) 1928 C dL_law_45 ht (by omega) (by omega) (by rw [h28]; rfl) rfl ?_
      exact lc_charge C hl hN hX hbl hbA hLx hI hi (by omega) (by omega) hK
    by_cases h29 : t = 29
    · refine a_tswIn (tgt := 2029) 1984 C dL_law_45 ht (by omega) (by omega) (by rw [h29]; rfl) rfl ?_
      exact lc_onBoard C hl hN hX hbl hbA hLx hI hi (by omega) (by omega) hK
    by_cases h30 : t = 30
    · refine a_tswIn (tgt := 2085) 2040 C dL_law_45 ht (by omega) (by omega) (by rw [h30]; rfl) rfl ?_
      exact lc_driven C hl hN hX hbl hbA hLx hI hi (by omega) (by omega) hK
    by_cases h31 : t = 31
    · refine a_tswIn (tgt := 2141) 2096 C dL_law_45 ht (by omega) (by omega) (by rw [h31]; rfl) rfl ?_
      exact lc_empty C hl hN hX hbl hbA hLx hI hi (by omega) (by omega) hK
    by_cases h32 : t = 32
    · refine a_tswIn (tgt := 2197) 2152 C dL_law_45 ht (by omega) (by omega) (by rw [h32]; rfl) rfl ?_
      exact lc_emptyByJournal C hl hN hX hbl hbA hLx hI hi (by omega) (by omega) hK
    by_cases h33 : t = 33
    · refine a_tswIn (tgt := 2253) 2208 C dL_law_45 ht (by omega) (by omega) (by rw [h33]; rfl) rfl ?_
      exact lc_occupancy C hl hN hX hbl hbA hLx hI hi (by omega) (by omega) hK hF
    by_cases h34 : t = 34
    · refine a_tswIn (tgt := 2331) 2286 C dL_law_45 ht (by omega) (by omega) (by rw [h34]; rfl) rfl ?_
      exact lc_entries C hl hN hX hbl hbA hLx hI hi (by omega) (by omega) hK
    by_cases h35 : t = 35
    · refine a_tswIn (tgt := 2344) 2299 C dL_law_45 ht (by omega) (by omega) (by rw [h35]; rfl) rfl ?_
      exact lc_entryBus C hl hN hX hbl hbA hLx hI hi (by omega) (by omega) hK
    by_cases h36 : t = 36
    · refine a_tswIn (tgt := 2400) 2355 C dL_law_45 ht (by omega) (by omega) (by rw [h36]; rfl) rfl ?_
      exact lc_entryRequest C hl hN hX hbl hbA hLx hI hi (by omega) (by omega) hK
    by_cases h37 : t = 37
    · refine a_tswIn (tgt := 2456) 2411 C dL_law_45 ht (by omega) (by omega) (by rw [h37]; rfl) rfl ?_
      exact lc_entryTime C hl hN hX hbl hbA hLx hI hi (by omega) (by omega) hK
    by_cases h38 : t = 38
    · refine a_tswIn (tgt := 2512) 2467 C dL_law_45 ht (by omega) (by omega) (by rw [h38]; rfl) rfl ?_
      exact lc_entryDistance C hl hN hX hbl hbA hLx hI hi (by omega) (by omega) hK
    by_cases h39 : t = 39
    · refine a_tswIn (tgt := 2568) 2523 C dL_law_45 ht (by omega) (by omega) (by rw [h39]; rfl) rfl ?_
      exact lc_worstRide C hl hN hX hbl hbA hLx hI hi (by omega) (by omega) hK
    refine a_tswOut (tgt := 2612) C dL_law_45 ht (by omega) rfl ?_
    refine ab_more (k2 := k + 4) (n2 := n + 150) (by omega) (by omega) ?_
    exact hK ad ad f a TS nb nr (vL, vD) ⟨hI.1, hI.2.1, st_60 hI.2.2.1⟩ (fun _ _ => rfl)
termination_by M => M
