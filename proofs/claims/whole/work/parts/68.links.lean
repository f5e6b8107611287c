/-! The class's table and the model's table tell the same. -/
/-- the class's objects hold a and the tours -/
def CL (f a : Nat → Nat → Int) (TS : Nat → List Nat) (nb nr : Nat) : Prop := (∀ o, (o = 0 ∨ (4 ≤ o ∧ o ≤ 8) ∨ (200 ≤ o ∧ o < 200 + nb) ∨ (300 ≤ o ∧ o < 300 + nr)) → f o = a o) ∧ (∀ b, b < nb → ts_I f (200 + b + 10) (TS b)) ∧
  (∀ i, i < 4 → 0 ≤ f (300 + nr) i ∧ f (300 + nr) i ≤ 20) ∧ (0 ≤ f (300 + nr) 4 ∧ f (300 + nr) 4 ≤ 6) ∧ (0 ≤ f (300 + nr) 6 ∧ f (300 + nr) 6 ≤ 100000) ∧ (0 ≤ f (300 + nr) 7 ∧ f (300 + nr) 7 ≤ 1000) ∧ f (300 + nr) 8 = 0 ∧ f (300 + nr) 9 = 0 ∧ f (300 + nr) 10 = -1 ∧ f (300 + nr) 11 = 0 ∧ f (300 + nr) 12 = 0
/-- the model's arrays hold a -/
def MR (f a : Nat → Nat → Int) (nb nr : Nat) : Prop := (f 40 29 = (nb : Int) ∧ f 40 30 = (nr : Int) ∧ f 40 31 = a 4 4 ∧ f 40 32 = a 0 6 ∧ f 40 33 = a 0 7 ∧ f 40 34 = a 0 8) ∧
  (∀ b, b < nb → f 41 b = a (200 + b) 1 ∧ f 42 b = a (200 + b) 2 ∧ f 43 b = a (200 + b) 8 ∧ f 44 b = a (200 + b) 6 ∧ f 45 b = a (200 + b) 7 ∧ f 46 b = a (200 + b) 3 ∧ f 47 b = a (200 + b) 4 ∧ f 48 b = a (200 + b) 10 ∧ f 49 b = a (200 + b) 11 ∧ f 50 b = a (200 + b) 12) ∧
  (∀ b, nb ≤ b → b < 4 → f 48 b = 0 ∧ f 49 b = 0 ∧ f 50 b = 0) ∧
  (∀ r, r < nr → (f 53 r = a (300 + r) 0 ∧ f 54 r = a (300 + r) 1 ∧ f 55 r = a (300 + r) 2 ∧ f 56 r = a (300 + r) 3 ∧ f 57 r = a (300 + r) 4 ∧ f 58 r = a (300 + r) 6 ∧ f 59 r = a (300 + r) 7) ∧ (f 63 r = a (300 + r) 8 ∧ f 61 r = a (300 + r) 11 ∧ f 62 r = a (300 + r) 12) ∧ (a (300 + r) 8 ≠ 120 → f 60 r = a (300 + r) 10) ∧ (a (300 + r) 8 = 120 → f 64 r = sg_f (a (300 + r) 9))) ∧
  (∀ r, nr ≤ r → r ≤ 30 → f 61 r = 0 ∧ f 62 r = 0 ∧ (0 ≤ f 53 r ∧ f 53 r ≤ 20) ∧ (0 ≤ f 54 r ∧ f 54 r ≤ 20) ∧ (0 ≤ f 55 r ∧ f 55 r ≤ 20) ∧ (0 ≤ f 56 r ∧ f 56 r ≤ 20) ∧ (0 ≤ f 57 r ∧ f 57 r ≤ 6) ∧ (0 ≤ f 58 r ∧ f 58 r ≤ 100000) ∧ 0 ≤ f 59 r ∧ f 59 r ≤ 1000) ∧
  (∀ r, r ≤ 30 → -1 ≤ f 60 r ∧ f 60 r ≤ 10) ∧
  ∀ k : Nat, (k : Int) < a 4 4 → f 65 k = a 5 k ∧ f 66 k = a 6 k ∧ f 67 k = a 7 k ∧ f 68 k = a 8 k
/-- and the tours -/
def ML (f a : Nat → Nat → Int) (TS : Nat → List Nat) (nb nr : Nat) : Prop := MR f a nb nr ∧ (∀ b, b < nb → mt_I f b (TS b)) ∧ ∀ b, nb ≤ b → b < 4 → f 51 b = 0
theorem mr_cong {f f2 a : Nat → Nat → Int} {nb nr : Nat} (h : MR f a nb nr) (h1 : ∀ o, (41 ≤ o ∧ o ≤ 50) ∨ (53 ≤ o ∧ o ≤ 68) → f2 o = f o) (h2 : ∀ i, 29 ≤ i → i ≤ 34 → f2 40 i = f 40 i) : MR f2 a nb nr := by
  unfold MR at h ⊢
  rw [h1 41 (by omega), h1 42 (by omega), h1 43 (by omega), h1 44 (by omega), h1 45 (by omega), h1 46 (by omega), h1 47 (by omega), h1 48 (by omega), h1 49 (by omega), h1 50 (by omega), h1 53 (by omega), h1 54 (by omega), h1 55 (by omega), h1 56 (by omega), h1 57 (by omega), h1 58 (by omega), h1 59 (by omega), h1 60 (by omega), h1 61 (by omega), h1 62 (by omega), h1 63 (by omega), h1 64 (by omega), h1 65 (by omega), h1 66 (by omega), h1 67 (by omega), h1 68 (by omega), h2 29 (by omega) (by omega), h2 30 (by omega) (by omega), h2 31 (by omega) (by omega), h2 32 (by omega) (by omega), h2 33 (by omega) (by omega), h2 34 (by omega) (by omega)]
  exact h
def vM (f : Nat → Nat → Int) : Nat → Nat → Int := fun c i => if c = 0 then pj_x f i else if c = 1 then pj_y f i else if c = 2 then f 57 i else if c = 3 then f 58 i else if c = 4 then f 59 i else f 61 i
section LK
variable {f a : Nat → Nat → Int} {TS : Nat → List Nat} {nb nr b : Nat} {tm : Int}
theorem mr_cg (h : MR f a nb nr) : cg (vC a) (vM f) (fun r => r < nr) := by
  refine ⟨fun q hq => ?_, fun r hr => ?_⟩
  · obtain ⟨⟨m0, m1, m2, m3, -⟩, -⟩ := h.2.2.2.1 _ hq
    show pj_x f q = pd_x a q ∧ pj_y f q = pd_y a q
    unfold pj_x pj_y pd_x pd_y
    rw [m0, m1, m2, m3]
    exact ⟨rfl, rfl⟩
  · obtain ⟨⟨-, -, -, -, m4, m5, m6⟩, ⟨-, m7, -⟩, -⟩ := h.2.2.2.1 r hr
    exact ⟨m4, m5, m6, m7⟩
theorem mr_pj (h : MR f a nb nr) (hB : BS a TS nb nr tm) (htm : tm ≤ 100000) : pj_C f (vM f) := by
  have h6 := hB.2.2.1
  have h30 := hB.2.1
  have key : ∀ r, r ≤ 30 → (0 ≤ f 53 r ∧ f 53 r ≤ 20) ∧ (0 ≤ f 54 r ∧ f 54 r ≤ 20) ∧ (0 ≤ f 55 r ∧ f 55 r ≤ 20) ∧ (0 ≤ f 56 r ∧ f 56 r ≤ 20) ∧ (0 ≤ f 57 r ∧ f 57 r ≤ 6) ∧ (0 ≤ f 58 r ∧ f 58 r ≤ 100000) ∧ (0 ≤ f 59 r ∧ f 59 r ≤ 1000) ∧ 0 ≤ f 61 r ∧ f 61 r ≤ 100000 := fun r hr => by
    by_cases hn : r < nr
    · obtain ⟨⟨m0, m1, m2, m3, m4, m5, m6⟩, ⟨-, m7, -⟩, -⟩ := h.2.2.2.1 r hn
      obtain ⟨-, r0, r1, r2, r3, r4, -, r6, r7, -, -, r11, -⟩ := hB.2.2.2.2.2.2.1 r hn
      rw [m0, m1, m2, m3, m4, m5, m6, m7]
      omega
    · have := h.2.2.2.2.1 r (by omega) hr
      omega
  refine ⟨fun q hq => ⟨rfl, rfl, ?_⟩, fun r hr => ⟨rfl, rfl, rfl, rfl, ?_⟩⟩
  · have := key _ hq
    show (0 ≤ pj_x f q ∧ pj_x f q ≤ 20) ∧ 0 ≤ pj_y f q ∧ pj_y f q ≤ 20
    unfold pj_x pj_y
    split <;> omega
  · have := key r hr
    show (0 ≤ f 57 r ∧ f 57 r ≤ 6) ∧ (0 ≤ f 58 r ∧ f 58 r ≤ 100000) ∧ (0 ≤ f 59 r ∧ f 59 r ≤ 1000) ∧ 0 ≤ f 61 r ∧ f 61 r ≤ 100000
    omega
theorem mr_ob (h : MR f a nb nr) : ∀ n, n ≤ nr → ab_n f b n = ob a b n
  | 0, _ => rfl
  | n + 1, hn => by
    obtain ⟨⟨-, -, -, -, m4, -⟩, ⟨m8, -⟩, m10, -⟩ := h.2.2.2.1 n (by omega)
    rw [ab_n, ob, mr_ob h n (by omega), m8, m4]
    by_cases hz : a (300 + n) 8 = 114
    · rw [m10 (by omega)]
      split
      · rfl
      · rw [Int.add_zero]
    · rw [if_neg (fun z => hz z.1), if_neg (fun z => hz z.1), Int.add_zero]
theorem mr_rid (h : MR f a nb nr) (hB : BS a TS nb nr tm) : ∀ r, r < nr → (0 ≤ f 57 r ∧ f 57 r ≤ 6) ∧ st_ok (f 63 r) ∧ -1 ≤ f 60 r ∧ f 60 r ≤ 10 := fun r hr => by
  obtain ⟨⟨-, -, -, -, m4, -⟩, ⟨m8, -⟩, -⟩ := h.2.2.2.1 r hr
  obtain ⟨r0, -, -, -, -, r4, -⟩ := hB.2.2.2.2.2.2.1 r hr
  rw [m4, m8]
  have := h.2.2.2.2.2.1 r (by have := hB.2.1; omega)
  exact ⟨by omega, r0, this⟩
theorem ch_0 {S : List Nat} {t : Int} (h : fb a S b t) : 0 ≤ a (200 + b) 8 := by
  have h1 := (fault_c.mp h).2.2.2.2
  have h2 := len_tri (v := vC a) (a (200 + b) 3) (a (200 + b) 4) S (a (200 + b) 6) (a (200 + b) 7)
  have h3 := pd_0 (a (200 + b) 6) (a (200 + b) 7) (a (200 + b) 3) (a (200 + b) 4)
  omega
theorem bs_9 (hB : BS a TS nb nr tm) (hb : b < nb) : 0 ≤ a (200 + b) 9 ∧ a (200 + b) 9 ≤ a (200 + b) 1 := by
  have h1 := hB.2.2.2.2.2.1 b hb
  have h2 := hB.2.2.2.2.2.2.2.2.1 b hb
  have h3 := ob_0 (b := b) hB.2.2.2.2.2.2.1 nr (Nat.le_refl _)
  unfold bu at h1
  omega
theorem mr_pk (h : MR f a nb nr) (hB : BS a TS nb nr tm) (hb : b < nb) {S : List Nat} {t : Int} (hf : fb a S b t) : pk_B f b := by
  obtain ⟨m1, -, m8, m6, m7, m3, m4, -⟩ := h.2.1 b hb
  obtain ⟨-, u1, -, u3, u4, u6, u7, u8, -⟩ := hB.2.2.2.2.2.1 b hb
  have := ch_0 hf
  unfold pk_B
  rw [m1, m8, m6, m7, m3, m4]
  omega
theorem mr_bq (h : MR f a nb nr) (hB : BS a TS nb nr tm) (hb : b < nb) : bq (a (200 + b)) (mB f nr b) := by
  obtain ⟨m1, -, m8, m6, m7, m3, m4, -⟩ := h.2.1 b hb
  refine ⟨m1, m3, m4, m6, m7, m8, ?_⟩
  show ab_n f b nr = _
  rw [mr_ob h nr (Nat.le_refl _)]
  exact (hB.2.2.2.2.2.2.2.2.1 b hb).symm
theorem cl_bus (h : CL f a TS nb nr) (hb : b < nb) : f (200 + b) = a (200 + b) := h.1 _ (by omega)
theorem cl_req {r : Nat} (h : CL f a TS nb nr) (hr : r < nr) : f (300 + r) = a (300 + r) := h.1 _ (by omega)
theorem cl_cg (h : CL f a TS nb nr) : cg (vC a) (vC f) (fun r => r < nr) := vC_cg (fun r hr i _ => by rw [cl_req h hr])
theorem cl_pe (h : CL f a TS nb nr) (hB : BS a TS nb nr tm) (htm : tm ≤ 100000) : pe_C f (vC f) nr := by
  have h6 := hB.2.2.1
  obtain ⟨hrows, -, w0, w4, w6, w7, -, -, -, w11, -⟩ := h
  have key : ∀ r, r ≤ nr → (0 ≤ f (300 + r) 0 ∧ f (300 + r) 0 ≤ 20) ∧ (0 ≤ f (300 + r) 1 ∧ f (300 + r) 1 ≤ 20) ∧ (0 ≤ f (300 + r) 2 ∧ f (300 + r) 2 ≤ 20) ∧ (0 ≤ f (300 + r) 3 ∧ f (300 + r) 3 ≤ 20) ∧ (0 ≤ f (300 + r) 4 ∧ f (300 + r) 4 ≤ 6) ∧ (0 ≤ f (300 + r) 6 ∧ f (300 + r) 6 ≤ 100000) ∧ (0 ≤ f (300 + r) 7 ∧ f (300 + r) 7 ≤ 1000) ∧ 0 ≤ f (300 + r) 11 ∧ f (300 + r) 11 ≤ 100000 := fun r hr => by
    by_cases hn : r < nr
    · obtain ⟨-, r0, r1, r2, r3, r4, -, r6, r7, -, -, r11, -⟩ := hB.2.2.2.2.2.2.1 r hn
      rw [hrows (300 + r) (by omega)]
      omega
    · have e : r = nr := by omega
      subst e
      have := w0 0 (by decide)
      have := w0 1 (by decide)
      have := w0 2 (by decide)
      have := w0 3 (by decide)
      omega
  refine ⟨fun q hq => ⟨rfl, rfl, ?_⟩, fun r hr => ⟨rfl, rfl, rfl, rfl, ?_⟩⟩
  · have := key _ hq
    show (0 ≤ pd_x f q ∧ pd_x f q ≤ 20) ∧ 0 ≤ pd_y f q ∧ pd_y f q ≤ 20
    unfold pd_x pd_y
    split <;> omega
  · have := key r hr
    show (0 ≤ f (300 + r) 4 ∧ f (300 + r) 4 ≤ 6) ∧ (0 ≤ f (300 + r) 6 ∧ f (300 + r) 6 ≤ 100000) ∧ (0 ≤ f (300 + r) 7 ∧ f (300 + r) 7 ≤ 1000) ∧ 0 ≤ f (300 + r) 11 ∧ f (300 + r) 11 ≤ 100000
    omega
theorem bu_pb (hB : BS a TS nb nr tm) (hb : b < nb) (h8 : 0 ≤ a (200 + b) 8) : pb_B a (200 + b) := by
  obtain ⟨-, u1, -, u3, u4, u6, u7, u8, -⟩ := hB.2.2.2.2.2.1 b hb
  have h9 := bs_9 hB hb
  unfold pb_B
  omega
theorem cl_pb (h : CL f a TS nb nr) (hB : BS a TS nb nr tm) (hb : b < nb) (h8 : 0 ≤ a (200 + b) 8) : pb_B f (200 + b) := by
  have := bu_pb hB hb h8
  unfold pb_B at this ⊢
  rw [cl_bus h hb]
  exact this
theorem tr_q (hB : BS a TS nb nr tm) (hb : b < nb) : ∀ j, j < (TS b).length → (TS b).getD j 0 / 2 < nr := fun j hj => tr_R (hB.2.2.2.2.2.2.2.1 b hb) _ (gd_mem hj)
theorem cl_wd {ol : Int64 × UInt64} (h : CL f a TS nb nr) (hB : BS a TS nb nr tm) (htm : tm ≤ 100000) (hf : ∀ b, b < nb → ∃ t, fb a (TS b) b t) : wd_C f (nb, nr, ol) (vC f) TS := by
  refine ⟨hB.2.1, hB.1, cl_pe h hB htm, fun b hb => ?_, h.2.1, fun b hb => ?_⟩
  · obtain ⟨t, ht⟩ := hf b hb
    exact cl_pb h hB hb (ch_0 ht)
  · obtain ⟨t, ht⟩ := hf b hb
    exact ⟨(fault_c.mp ht).1, fun j hj => Nat.le_of_lt (tr_q hB hb j hj)⟩
end LK
section STEP
variable {f a : Nat → Nat → Int} {TS : Nat → List Nat} {nb nr b q : Nat} {tm : Int} {S : List Nat}
/-- a stop on both sides -/
theorem mr_stop (h : MR f a nb nr) (hb : b < nb) (h4 : nb ≤ 4) (hq : q / 2 < nr) (h0 : a (200 + b) 0 = (b : Int)) {ne : Nat} (hne : a 4 4 = (ne : Int)) (hst : a (300 + q / 2) 8 ≠ 120) : MR (mm_T f b q) (mk_T a b q) nb nr := by
  obtain ⟨⟨m29, m30, m31, m32, m33, m34⟩, hbus, hfr, hreq, hfrq, h60, hent⟩ := h
  have e0 : mk_T a b q 0 = a 0 := mk_row (by omega) (by omega) (by omega)
  have e40 : ∀ i, i ≠ 31 → mm_T f b q 40 i = f 40 i := fun i hi => mm_40 hi
  have er : ∀ o, o ≠ 40 → (o < 61 ∨ 63 < o) → (o < 65 ∨ 68 < o) → mm_T f b q o = f o := fun o h1 h2 h3 => mm_row ⟨h1, h2, h3⟩
  have eb : ∀ c i, c < nb → i ≠ 9 → mk_T a b q (200 + c) i = a (200 + c) i := fun c i hc hi => by
    by_cases e : c = b
    · rw [e]; exact mk_bus (by omega) hi
    · rw [mk_row (by omega) (by omega) (by omega)]
  have enz : (a 4 4).toNat = ne := by rw [hne]; exact Int.toNat_natCast ne
  have enm : (f 40 31).toNat = ne := by rw [m31]; exact enz
  have m61 : ∀ r, mm_T f b q 61 r = if r = q / 2 ∧ q % 2 = 0 then f 40 32 else f 61 r := fun r => mm_61
  have m63 : ∀ r, mm_T f b q 63 r = if r = q / 2 then (if q % 2 = 0 then 114 else 100) else f 63 r := fun r => by
    unfold mm_T
    rw [ii_up_o _ _ _ (by decide), ii_up_o _ _ _ (by decide), ii_up_o _ _ _ (by decide), ii_up_o _ _ _ (by decide), ii_up_o _ _ _ (by decide)]
    by_cases he : q % 2 = 0
    · rw [if_pos he, if_pos he, ii_up_o _ _ _ (by decide)]
      by_cases hr : r = q / 2
      · rw [if_pos hr, hr, ii_up_s]
      · rw [if_neg hr, ii_up_k _ _ hr]
    · rw [if_neg he, if_neg he, ii_up_o _ _ _ (by decide)]
      by_cases hr : r = q / 2
      · rw [if_pos hr, hr, ii_up_s]
      · rw [if_neg hr, ii_up_k _ _ hr]
  have m62 : ∀ r, mm_T f b q 62 r = if r = q / 2 ∧ ¬ q % 2 = 0 then f 40 32 else f 62 r := fun r => by
    unfold mm_T
    rw [ii_up_o _ _ _ (by decide), ii_up_o _ _ _ (by decide), ii_up_o _ _ _ (by decide), ii_up_o _ _ _ (by decide), ii_up_o _ _ _ (by decide)]
    by_cases he : q % 2 = 0
    · rw [if_pos he, if_neg (fun z => z.2 he), ii_up_o _ _ _ (by decide), ii_up_o _ _ _ (by decide)]
    · rw [if_neg he]
      by_cases hr : r = q / 2
      · rw [if_pos ⟨hr, he⟩, hr, ii_up_s]
      · rw [if_neg (fun z => hr z.1), ii_up_k _ _ hr, ii_up_o _ _ _ (by decide)]
  have inner : ∀ o i, 65 ≤ o → (if q % 2 = 0 then ii_up (ii_up f 63 (q / 2) 114) 61 (q / 2) (f 40 32) else ii_up (ii_up f 63 (q / 2) 100) 62 (q / 2) (f 40 32)) o i = f o i := fun o i ho => by
    split
    · rw [ii_up_o _ _ _ (by omega), ii_up_o _ _ _ (by omega)]
    · rw [ii_up_o _ _ _ (by omega), ii_up_o _ _ _ (by omega)]
  have m65 : ∀ k, mm_T f b q 65 k = if k = ne then (b : Int) else f 65 k := fun k => by
    unfold mm_T
    rw [enm, ii_up_o _ _ _ (by decide), ii_up_o _ _ _ (by decide), ii_up_o _ _ _ (by decide), ii_up_o _ _ _ (by decide)]
    by_cases e : k = ne
    · rw [if_pos e, e, ii_up_s]
    · rw [if_neg e, ii_up_k _ _ e, inner _ _ (by decide)]
  have m66 : ∀ k, mm_T f b q 66 k = if k = ne then ((q / 2 : Nat) : Int) else f 66 k := fun k => by
    unfold mm_T
    rw [enm, ii_up_o _ _ _ (by decide), ii_up_o _ _ _ (by decide), ii_up_o _ _ _ (by decide)]
    by_cases e : k = ne
    · rw [if_pos e, e, ii_up_s]
    · rw [if_neg e, ii_up_k _ _ e, ii_up_o _ _ _ (by decide), inner _ _ (by decide)]
  have m67 : ∀ k, mm_T f b q 67 k = if k = ne then f 40 32 else f 67 k := fun k => by
    unfold mm_T
    rw [enm, ii_up_o _ _ _ (by decide), ii_up_o _ _ _ (by decide)]
    by_cases e : k = ne
    · rw [if_pos e, e, ii_up_s]
    · rw [if_neg e, ii_up_k _ _ e, ii_up_o _ _ _ (by decide), ii_up_o _ _ _ (by decide), inner _ _ (by decide)]
  have m68 : ∀ k, mm_T f b q 68 k = if k = ne then f 48 b else f 68 k := fun k => by
    unfold mm_T
    rw [enm, ii_up_o _ _ _ (by decide)]
    by_cases e : k = ne
    · rw [if_pos e, e, ii_up_s]
    · rw [if_neg e, ii_up_k _ _ e, ii_up_o _ _ _ (by decide), ii_up_o _ _ _ (by decide), ii_up_o _ _ _ (by decide), inner _ _ (by decide)]
  refine ⟨⟨?_, ?_, ?_, ?_, ?_, ?_⟩, fun c hc => ?_, fun c hc hc4 => ?_, fun r hr => ?_, fun r hr hr30 => ?_, fun r hr => ?_, fun k hk => ?_⟩
  · rw [e40 29 (by decide)]; exact m29
  · rw [e40 30 (by decide)]; exact m30
  · rw [mm_31, mk_44, m31]
  · rw [e40 32 (by decide), e0]; exact m32
  · rw [e40 33 (by decide), e0]; exact m33
  · rw [e40 34 (by decide), e0]; exact m34
  · rw [er 41 (by decide) (by decide) (by decide), er 42 (by decide) (by decide) (by decide), er 43 (by decide) (by decide) (by decide), er 44 (by decide) (by decide) (by decide), er 45 (by decide) (by decide) (by decide), er 46 (by decide) (by decide) (by decide), er 47 (by decide) (by decide) (by decide), er 48 (by decide) (by decide) (by decide), er 49 (by decide) (by decide) (by decide), er 50 (by decide) (by decide) (by decide), eb c 1 hc (by decide), eb c 2 hc (by decide), eb c 8 hc (by decide), eb c 6 hc (by decide), eb c 7 hc (by decide), eb c 3 hc (by decide), eb c 4 hc (by decide), eb c 10 hc (by decide), eb c 11 hc (by decide), eb c 12 hc (by decide)]
    exact hbus c hc
  · rw [er 48 (by decide) (by decide) (by decide), er 49 (by decide) (by decide) (by decide), er 50 (by decide) (by decide) (by decide)]
    exact hfr c hc hc4
  · obtain ⟨p1, ⟨p8, p11, p12⟩, p10, p9⟩ := hreq r hr
    rw [er 53 (by decide) (by decide) (by decide), er 54 (by decide) (by decide) (by decide), er 55 (by decide) (by decide) (by decide), er 56 (by decide) (by decide) (by decide), er 57 (by decide) (by decide) (by decide), er 58 (by decide) (by decide) (by decide), er 59 (by decide) (by decide) (by decide), er 60 (by decide) (by decide) (by decide), er 64 (by decide) (by decide) (by decide), m63, m61, m62, mk_req (i := 0) (by omega) (by decide) (by decide) (by decide), mk_req (i := 1) (by omega) (by decide) (by decide) (by decide), mk_req (i := 2) (by omega) (by decide) (by decide) (by decide), mk_req (i := 3) (by omega) (by decide) (by decide) (by decide), mk_req (i := 4) (by omega) (by decide) (by decide) (by decide), mk_req (i := 6) (by omega) (by decide) (by decide) (by decide), mk_req (i := 7) (by omega) (by decide) (by decide) (by decide), mk_req (i := 10) (by omega) (by decide) (by decide) (by decide), mk_req (i := 9) (by omega) (by decide) (by decide) (by decide), mk_req8 (by omega), mk_req11 (by omega), mk_req12 (by omega), m32, p8, p11, p12]
    refine ⟨p1, ⟨rfl, rfl, rfl⟩, fun z => ?_, fun z => ?_⟩
    · by_cases e : r = q / 2
      · exact p10 (by rw [e]; exact hst)
      · rw [if_neg e] at z
        exact p10 z
    · by_cases e : r = q / 2
      · rw [if_pos e] at z
        split at z <;> omega
      · rw [if_neg e] at z
        exact p9 z
  · rw [m61, m62, if_neg (by omega), if_neg (by omega), er 53 (by decide) (by decide) (by decide), er 54 (by decide) (by decide) (by decide), er 55 (by decide) (by decide) (by decide), er 56 (by decide) (by decide) (by decide), er 57 (by decide) (by decide) (by decide), er 58 (by decide) (by decide) (by decide), er 59 (by decide) (by decide) (by decide)]
    exact hfrq r hr hr30
  · rw [er 60 (by decide) (by decide) (by decide)]
    exact h60 r hr
  · rw [mk_44, hne] at hk
    rw [m65, m66, m67, m68, mk_5, mk_6, mk_7, mk_8, enz, h0, m32, (hbus b hb).2.2.2.2.2.2.2.1]
    by_cases e : k = ne
    · rw [if_pos e, if_pos e, if_pos e, if_pos e, if_pos e, if_pos e, if_pos e, if_pos e]
      exact ⟨rfl, rfl, rfl, rfl⟩
    · rw [if_neg e, if_neg e, if_neg e, if_neg e, if_neg e, if_neg e, if_neg e, if_neg e]
      exact hent k (by omega)
end STEP
