/-! Lists by places. -/
theorem gd_eq {α : Type} {S : List α} {d : α} {k : Nat} (h : k < S.length) : S.getD k d = S[k] := by
  rw [List.getD_eq_getElem?_getD, List.getElem?_eq_getElem h]
  rfl
theorem gd_out {α : Type} {S : List α} {d : α} {k : Nat} (h : S.length ≤ k) : S.getD k d = d := by
  rw [List.getD_eq_getElem?_getD, List.getElem?_eq_none h]
  rfl
theorem gd_app_l {α : Type} {S T : List α} {d : α} {k : Nat} (h : k < S.length) : (S ++ T).getD k d = S.getD k d := by
  rw [List.getD_eq_getElem?_getD, List.getD_eq_getElem?_getD, List.getElem?_append_left h]
theorem gd_app_r {α : Type} {S T : List α} {d : α} {k : Nat} (h : S.length ≤ k) : (S ++ T).getD k d = T.getD (k - S.length) d := by
  rw [List.getD_eq_getElem?_getD, List.getD_eq_getElem?_getD, List.getElem?_append_right h]
theorem gd_set {α : Type} {S : List α} {d v : α} {k j : Nat} (hk : k < S.length) : (S.set k v).getD j d = if j = k then v else S.getD j d := by
  rw [List.getD_eq_getElem?_getD, List.getD_eq_getElem?_getD, List.getElem?_set]
  by_cases h : k = j
  · subst h
    rw [if_pos rfl, if_pos hk, if_pos rfl]
    rfl
  · rw [if_neg h, if_neg (fun q => h q.symm)]
theorem gd_mem {α : Type} {S : List α} {d : α} {k : Nat} (h : k < S.length) : S.getD k d ∈ S := by
  rw [gd_eq h]
  exact List.getElem_mem h
theorem gd_of_mem {α : Type} {S : List α} {d v : α} (h : v ∈ S) : ∃ k, k < S.length ∧ S.getD k d = v := by
  obtain ⟨k, hk, h2⟩ := List.getElem_of_mem h
  exact ⟨k, hk, by rw [gd_eq hk]; exact h2⟩
theorem gd_drop {α : Type} {S : List α} {d : α} {k j : Nat} : (S.drop k).getD j d = S.getD (k + j) d := by
  rw [List.getD_eq_getElem?_getD, List.getD_eq_getElem?_getD, List.getElem?_drop]
theorem gd_take {α : Type} {S : List α} {d : α} {k j : Nat} (h : j < k) : (S.take k).getD j d = S.getD j d := by
  rw [List.getD_eq_getElem?_getD, List.getD_eq_getElem?_getD, List.getElem?_take_of_lt h]
theorem gd_ext {α : Type} {S T : List α} (d : α) (hl : S.length = T.length) (h : ∀ k, k < S.length → S.getD k d = T.getD k d) : S = T := by
  refine List.ext_getElem hl fun k h1 h2 => ?_
  have := h k h1
  rw [gd_eq h1, gd_eq h2] at this
  exact this
theorem ls_drop {S : List Nat} {k : Nat} (hk : k < S.length) : S.drop k = S.getD k 0 :: S.drop (k + 1) := by
  rw [List.drop_eq_getElem_cons hk, gd_eq hk]
theorem lt_drop {S : List Int} {k : Nat} (hk : k < S.length) : S.drop k = S.getD k 0 :: S.drop (k + 1) := by
  rw [List.drop_eq_getElem_cons hk, gd_eq hk]
theorem gd_idx {S : List Nat} {v d : Nat} (h : v ∈ S) : S.idxOf v < S.length ∧ S.getD (S.idxOf v) d = v := by
  have hi : S.idxOf v < S.length := List.idxOf_lt_length_of_mem h
  exact ⟨hi, by rw [gd_eq hi]; exact List.getElem_idxOf hi⟩
theorem gd_idx_le {S : List Nat} {v k : Nat} (hk : k < S.length) (h : S.getD k 0 = v) : S.idxOf v ≤ k := by
  rcases Nat.lt_or_ge k (S.idxOf v) with q | q
  · exfalso
    have h5 : S[k]'hk = v := by rw [← h, gd_eq hk]
    have h6 := List.not_of_lt_findIdx (p := fun x => x == v) (xs := S) (i := k) q
    simp [h5] at h6
  · exact q
