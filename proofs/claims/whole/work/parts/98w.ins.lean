/-! A newest form that moves to its place: the list stays sorted and is a permutation. -/
section
theorem insP_map {α : Type} {f : Nat → α} {j l : Nat} (hj : j ≤ l) : (List.range (l + 1)).map (fun k => f (insP j l k)) = ((List.range l).map f).take j ++ f l :: ((List.range l).map f).drop j := by
  have hl1 : (((List.range l).map f).take j).length = j := by
    rw [List.length_take, List.length_map, List.length_range]
    omega
  refine List.ext_getElem? (fun q => ?_)
  by_cases q0 : q < l + 1
  · rw [List.getElem?_map, List.getElem?_range q0]
    show some (f (insP j l q)) = _
    unfold insP
    by_cases q1 : q < j
    · rw [if_pos q1, List.getElem?_append_left (by omega), List.getElem?_take, if_pos q1, List.getElem?_map, List.getElem?_range (by omega)]
      rfl
    · rw [if_neg q1, List.getElem?_append_right (by omega), hl1]
      by_cases q2 : q = j
      · rw [if_pos q2, q2, Nat.sub_self]
        rfl
      · obtain ⟨k, hk⟩ : ∃ k, q - j = k + 1 := ⟨q - j - 1, by omega⟩
        rw [if_neg q2, if_pos (by omega), hk, List.getElem?_cons_succ, List.getElem?_drop, show j + k = q - 1 by omega, List.getElem?_map, List.getElem?_range (by omega)]
        rfl
  · rw [List.getElem?_eq_none (by rw [List.length_map, List.length_range]; omega), List.getElem?_eq_none (by rw [List.length_append, hl1, List.length_cons, List.length_drop, List.length_map, List.length_range]; omega)]
theorem insP_perm {α : Type} {f : Nat → α} {j l : Nat} (hj : j ≤ l) : ((List.range (l + 1)).map (fun k => f (insP j l k))).Perm ((List.range l).map f ++ [f l]) := by
  rw [insP_map hj]
  refine List.perm_middle.trans ?_
  rw [List.take_append_drop]
  exact (List.perm_append_singleton _ _).symm
theorem rng_getD0 {l q : Nat} (h : q < l) : (List.range l).getD q 0 = q := by
  rw [List.getD_eq_getElem?_getD, List.getElem?_range h]
  rfl
theorem insP_srt {f : Nat → Nat × List Int} {j l : Nat} (hj : j ≤ l) (h0 : srt ((List.range l).map f)) (h1 : ∀ k, j ≤ k → k < l → cmY (f l) (f k) < 0) (h2 : j = 0 ∨ 0 ≤ cmY (f l) (f (j - 1))) : srt ((List.range (l + 1)).map (fun k => f (insP j l k))) := by
  have e1 := insP_map (f := fun k : Nat => k) hj
  have e2 : (List.range l).map (fun k : Nat => k) = List.range l := List.map_id'' (fun _ => rfl) _
  rw [e2] at e1
  have h3 := ins_pw (r := fun a b => cmY (f a) (f b) ≤ 0) (fun a b c p q => cmY_trans p q) (List.pairwise_map.mp h0) (i := l) (j := j) (by rw [List.length_range]; exact hj) ?_ (fun q q1 q2 => ?_)
  · rw [← e1] at h3
    have h4 : srt (((List.range (l + 1)).map (fun k => insP j l k)).map f) := List.pairwise_map.mpr h3
    rw [List.map_map] at h4
    exact h4
  · rcases h2 with z | z
    · exact Or.inl z
    · by_cases w : j = 0
      · exact Or.inl w
      · right
        show cmY (f ((List.range l).getD (j - 1) 0)) (f l) ≤ 0
        rw [rng_getD0 (by omega)]
        have := cmY_neg (t := f l) (u := f (j - 1))
        omega
  · rw [List.length_range] at q2
    show cmY (f l) (f ((List.range l).getD q 0)) ≤ 0
    rw [rng_getD0 q2]
    have := h1 q q1 q2
    omega
theorem insP_lt {j l k : Nat} (hj : j ≤ l) (hl : l < 6) (hk : k < 6) : insP j l k < 6 := by
  unfold insP
  split
  · exact hk
  · split
    · exact hl
    · split <;> omega
theorem insP_c {j l : Nat} (hj : j ≤ l) (k : Nat) : (k < j ∧ insP j l k = k) ∨ (k = j ∧ insP j l k = l) ∨ (j < k ∧ k ≤ l ∧ insP j l k = k - 1) ∨ (l < k ∧ insP j l k = k) := by
  unfold insP
  by_cases q1 : k < j
  · rw [if_pos q1]
    exact Or.inl ⟨q1, rfl⟩
  · rw [if_neg q1]
    by_cases q2 : k = j
    · rw [if_pos q2]
      exact Or.inr (Or.inl ⟨q2, rfl⟩)
    · rw [if_neg q2]
      by_cases q3 : k ≤ l
      · rw [if_pos q3]
        exact Or.inr (Or.inr (Or.inl ⟨by omega, q3, rfl⟩))
      · rw [if_neg q3]
        exact Or.inr (Or.inr (Or.inr ⟨by omega, rfl⟩))
theorem insP_le {j l k : Nat} (hj : j ≤ l) (hk : k ≤ l) : insP j l k ≤ l := by
  have := insP_c hj k
  omega
theorem insP_inj {j l k q : Nat} (hj : j ≤ l) (h : insP j l k = insP j l q) : k = q := by
  have h1 := insP_c hj k
  have h2 := insP_c hj q
  omega
end
