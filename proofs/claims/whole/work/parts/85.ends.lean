/-! The law's end; the room. -/
theorem sn_drop {s s' : State} {L : List Loc} {k n : Nat} (h : s.sameButNew s' L k n) (hL : ∀ q ∈ L, s.heap.size ≤ q.base) : s.sameButNew s' [] k n := by
  obtain ⟨h1, h2, h3, h4, h5, h6⟩ := h
  refine ⟨h1, h2, h3, h4, h5, fun a c hc => ?_⟩
  obtain ⟨c', g1, g2, g3, g4⟩ := h6 a c hc
  refine ⟨c', g1, g2, g3, fun i _ => g4 i (fun hm => ?_)⟩
  have h7 := hL _ hm
  have h8 : a < s.heap.size := (Array.getElem?_eq_some_iff.mp hc).1
  exact absurd h8 (Nat.not_lt.mpr h7)
theorem lw_room {p : Program} {l : Launch} {e : Env} {R R2 : Room} {s : State} {m : MethodId} {args : Array Value} {below : List Frame} {meth : Method} {c : Code} {H : Heap} {locs : List Loc} {cells slots : Nat} {Q : State → Prop} {g : JFrame} (h1 : R2.frames ≤ R.frames) (h2 : R2.cells ≤ R.cells) (h3 : R2.slots ≤ R.slots) (h4 : R2.locals ≤ R.locals) (K : W p l e R2 s m args below meth c H locs cells slots Q g) : W p l e R s m args below meth c H locs cells slots Q g := by
  intro T hT X
  refine K T hT { X with room := ?_ }
  have h := X.room
  simp only [State.hasRoom, Bool.and_eq_true, decide_eq_true_eq] at h ⊢
  obtain ⟨⟨⟨⟨ha, hb1, hb2, hb3, hb4, hb5⟩, hc⟩, hd⟩, he⟩ := h
  exact ⟨⟨⟨⟨by omega, by omega, by omega, by omega, by omega, hb5⟩, by omega⟩, by omega⟩, he⟩
theorem lw_ret2 {p : Program} {l : Launch} {e : Env} {R : Room} {s : State} {m : MethodId} {below : List Frame} {meth : Method} {c : Code} {b k n : Nat} {locs : List Loc} (hx : p.tables.exec = Jvm.exec) (hb : c.code = code) (hr : meth.sig.returnType = ret) (hlocks : meth.locks = false) {pc : Nat} {H : Heap} {ls : Array Slot} (hL : ∀ q ∈ locs, s.heap.size ≤ q.base) (hk : k ≤ 601024) (hn : n ≤ 7293034) (hdg : decode code pc = .ok (.ireturn, 1)) : W p l e R s m #[Value.ref b] below meth c H locs k n (lw_Z below #[Value.ref b] s) (F0 m pc ls [.int 1]) := by
  intro T hT X0
  have X : Stand p l e R s m #[Value.ref b] below meth c T [] 601024 7293034 := { X0 with same := sn_drop (X0.same.mono hk hn) hL }
  obtain ⟨fs, hret, hrun, hended, hW, hframe⟩ := X.leave (v := some (.int 1)) (hlocks := hlocks) (fun h => by rw [hr] at h; cases h)
  have hmeth' : T.vm.method? m = some meth := X.method'
  refine ⟨T.setFrames fs, ?_, .returned (some (.int 1)), hrun, hended, rfl, lw_closed (Drawn.sameBut.refl s.drawn lw_cs) ⟨_, rfl⟩ hW hframe⟩
  jvm_step X.here [X.here.top, hx, hb, hdg, hmeth', hr, ret, narrow_b1]
  (try refine ⟨rfl, ?_⟩); (try refine ⟨rfl, ?_⟩)
  first | (intro acts; rw [hret _ acts rfl rfl rfl]) | rw [hret _ _ rfl rfl rfl]
  exact Steps.refl _
theorem lw_fin {p : Program} {l : Launch} {e : Env} {s : State} {m : MethodId} {b : Nat} {below : List Frame} {meth : Method} {c : Code} {E : ab_E} (C : ab_C p l s m #[Value.ref b] meth c E s.heap.size 8 RL cL_law (some .boolean)) : ∀ (ad : Nat → Nat) (z : ab_H) (k n : Nat) (L : List (Nat × Value)), k ≤ 601024 → n ≤ 7293034 → ab_W p l e (ab_rm 20 601024 7293034) s m #[Value.ref b] below meth c E s.heap.size 8 (lw_Z below #[Value.ref b] s) ab_x4 ad z k n 2618 L [] := by
  intro ad z k n L hk hn
  refine a_iconst C dL_law_2618 ?_
  intro H lo ls h1 h2 h3
  exact lw_ret2 C.1 C.2.1 C.2.2.1 C.2.2.2.2.2.2.1 (fun q hq => h2.2.2 q hq) hk hn dL_law_2619
