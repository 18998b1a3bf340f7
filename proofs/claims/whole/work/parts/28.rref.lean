/-! The canonical rows of a subspace. -/
section
variable {e n : Nat} {S : Vc e → Prop}
theorem k10 : (1 : Kf e) ≠ 0 := fun h => by
  have h1 := vl_1 (e := e)
  rw [h, vl_0] at h1
  omega
theorem Lp_lt (hS : Sub n S) {i : Nat} (h : Lp S i) : i < n := by
  obtain ⟨w, hw, hf⟩ := h
  rcases Nat.lt_or_ge i n with q | q
  · exact q
  · exact absurd (hS.2.2 w hw i q) hf.1
def crw (S : Vc e → Prop) (i : Nat) (w : Vc e) : Prop := S w ∧ fp w i ∧ w i = 1 ∧ ∀ j, j ≠ i → Lp S j → w j = 0
/-- two vectors of a subspace that agree at its leading places are one -/
theorem Lp_eq (hS : Sub n S) {u w : Vc e} (hu : S u) (hw : S w) (h : ∀ j, Lp S j → u j = w j) : u = w := by
  have hd : S (lc u (-1) w) := hS.2.1 _ _ _ hu hw
  apply Classical.byContradiction
  intro q
  have hne : lc u (-1) w ≠ z0 := fun h => q (by
    funext j
    have := congrFun h j
    unfold lc z0 at this
    grind)
  obtain ⟨j, hj, hf⟩ := fp_ex (hS.2.2 _ hd) hne
  have hL : Lp S j := ⟨_, hd, hf⟩
  apply hf.1
  show u j + -1 * w j = 0
  rw [h j hL]
  grind
theorem crw_uniq (hS : Sub n S) {i : Nat} {u w : Vc e} (hu : crw S i u) (hw : crw S i w) : u = w := by
  refine Lp_eq hS hu.1 hw.1 (fun j hL => ?_)
  by_cases e1 : j = i
  · subst e1
    rw [hu.2.2.1, hw.2.2.1]
  · rw [hu.2.2.2 j e1 hL, hw.2.2.2 j e1 hL]
theorem crw_ex (he : e ≤ 1) (hS : Sub n S) {i : Nat} (hL : Lp S i) : ∃ w, crw S i w := by
  have key : ∀ k, ∃ w, S w ∧ fp w i ∧ w i = 1 ∧ ∀ j, j < k → j ≠ i → Lp S j → w j = 0 := by
    intro k
    induction k with
    | zero =>
      obtain ⟨w, hw, hf⟩ := hL
      have h1 := sq1 he hf.1
      refine ⟨fun j => w i * w j, sub_sc hS hw _, ⟨?_, fun j hj => ?_⟩, h1, fun j hj => absurd hj (Nat.not_lt_zero j)⟩
      · show w i * w i ≠ 0
        rw [h1]
        exact k10
      · show w i * w j = 0
        rw [hf.2 j hj]
        grind
    | succ k ih =>
      obtain ⟨w, hw, hf, h1, h0⟩ := ih
      by_cases hk : k ≠ i ∧ Lp S k
      · obtain ⟨hki, u, hu, hfu⟩ := hk
        rcases Nat.lt_or_ge k i with q | q
        · refine ⟨w, hw, hf, h1, fun j hj hji hL => ?_⟩
          by_cases e1 : j = k
          · rw [e1]
            exact hf.2 k q
          · exact h0 j (by omega) hji hL
        · refine ⟨lc w (-(w k * u k)) u, hS.2.1 _ _ _ hw hu, ⟨?_, fun j hj => ?_⟩, ?_, fun j hj hji hL => ?_⟩
          · show w i + -(w k * u k) * u i ≠ 0
            rw [hfu.2 i (by omega)]
            intro q
            apply hf.1
            grind
          · show w j + -(w k * u k) * u j = 0
            rw [hfu.2 j (by omega), hf.2 j hj]
            grind
          · show w i + -(w k * u k) * u i = 1
            rw [hfu.2 i (by omega), h1]
            grind
          · show w j + -(w k * u k) * u j = 0
            by_cases e1 : j = k
            · subst e1
              have h3 := sq1 he hfu.1
              have : w j + -(w j * u j) * u j = w j - w j * (u j * u j) := by grind
              rw [this, h3]
              grind
            · rw [hfu.2 j (by omega), h0 j (by omega) hji hL]
              grind
      · refine ⟨w, hw, hf, h1, fun j hj hji hL => ?_⟩
        by_cases e1 : j = k
        · subst e1
          exact absurd ⟨hji, hL⟩ hk
        · exact h0 j (by omega) hji hL
  obtain ⟨w, hw, hf, h1, h0⟩ := key n
  exact ⟨w, hw, hf, h1, fun j hji hj => h0 j (Lp_lt hS hj) hji hj⟩
noncomputable def crow (S : Vc e → Prop) (i : Nat) : Vc e := @Classical.epsilon (Vc e) ⟨z0⟩ (crw S i)
theorem crow_spec (he : e ≤ 1) (hS : Sub n S) {i : Nat} (hL : Lp S i) : crw S i (crow S i) := Classical.epsilon_spec (crw_ex he hS hL)
theorem crow_eq (he : e ≤ 1) (hS : Sub n S) {i : Nat} {w : Vc e} (h : crw S i w) : crow S i = w := crw_uniq hS (crow_spec he hS ⟨w, h.1, h.2.1⟩) h
theorem crow_sup (he : e ≤ 1) (hS : Sub n S) {i : Nat} (hL : Lp S i) : sup n (crow S i) := hS.2.2 _ (crow_spec he hS hL).1
theorem num_eq0 (he : e ≤ 1) {w : Vc e} (hw : sup n w) : num n w = 0 ↔ w = z0 := by
  have e1 : num n (z0 : Vc e) = 0 := by
    have := num_ext (e := e) (n := 0) (m := n) (w := z0) (fun i _ => rfl) (by omega)
    rw [this]
    rfl
  constructor
  · intro h
    exact num_inj2 he hw sup_z0 (by rw [e1]; exact h)
  · intro h
    rw [h, e1]
theorem cnt_lt {P : Nat → Prop} {i j : Nat} (hij : i < j) (hi : P i) : cnt P i < cnt P j := by
  induction j with
  | zero => omega
  | succ j ih =>
    show cnt P i < cnt P j + ifp (P j) 1 0
    by_cases e1 : i = j
    · subst e1
      rw [ifp_t hi]
      omega
    · have := ih (by omega)
      omega
theorem cnt_mono {P : Nat → Prop} {i j : Nat} (hij : i ≤ j) : cnt P i ≤ cnt P j := by
  induction j with
  | zero => rw [Nat.le_zero.mp hij]; exact Nat.le_refl _
  | succ j ih =>
    show cnt P i ≤ cnt P j + ifp (P j) 1 0
    by_cases e1 : i = j + 1
    · subst e1
      exact Nat.le_refl _
    · have := ih (by omega)
      omega
/-- the places in their order -/
theorem cnt_at {P : Nat → Prop} {n d : Nat} (h : d < cnt P n) : ∃ i, i < n ∧ P i ∧ cnt P i = d := by
  induction n with
  | zero => exact absurd h (Nat.not_lt_zero d)
  | succ n ih =>
    by_cases hP : P n
    · rcases Nat.lt_or_ge d (cnt P n) with q | q
      · obtain ⟨i, h1, h2, h3⟩ := ih q
        exact ⟨i, by omega, h2, h3⟩
      · have h1 : d < cnt P n + ifp (P n) 1 0 := h
        rw [ifp_t hP] at h1
        exact ⟨n, by omega, hP, by omega⟩
    · have h1 : d < cnt P n + ifp (P n) 1 0 := h
      rw [ifp_f hP] at h1
      obtain ⟨i, h1, h2, h3⟩ := ih (by omega)
      exact ⟨i, by omega, h2, h3⟩
end
