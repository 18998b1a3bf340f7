/-! Dimension: the number of places at which a vector of the space begins. -/
noncomputable def ifp {α : Type} (P : Prop) (a b : α) : α := @ite α P (Classical.propDecidable P) a b
theorem ifp_t {α : Type} {P : Prop} {a b : α} (h : P) : ifp P a b = a := if_pos h
theorem ifp_f {α : Type} {P : Prop} {a b : α} (h : ¬ P) : ifp P a b = b := if_neg h
noncomputable def cnt (P : Nat → Prop) : Nat → Nat
  | 0 => 0
  | n + 1 => cnt P n + ifp (P n) 1 0
theorem cnt_congr {P Q : Nat → Prop} {n : Nat} (h : ∀ i, i < n → (P i ↔ Q i)) : cnt P n = cnt Q n := by
  induction n with
  | zero => rfl
  | succ n ih =>
    show cnt P n + ifp (P n) 1 0 = cnt Q n + ifp (Q n) 1 0
    rw [ih (fun i hi => h i (by omega))]
    by_cases hp : P n
    · rw [ifp_t hp, ifp_t ((h n (by omega)).mp hp)]
    · rw [ifp_f hp, ifp_f (fun q => hp ((h n (by omega)).mpr q))]
theorem cnt_le (P : Nat → Prop) (n : Nat) : cnt P n ≤ n := by
  induction n with
  | zero => exact Nat.le_refl _
  | succ n ih =>
    show cnt P n + ifp (P n) 1 0 ≤ n + 1
    by_cases hp : P n
    · rw [ifp_t hp]; omega
    · rw [ifp_f hp]; omega
theorem cnt_zero {P : Nat → Prop} {n : Nat} (h : ∀ i, i < n → ¬ P i) : cnt P n = 0 := by
  induction n with
  | zero => rfl
  | succ n ih =>
    show cnt P n + ifp (P n) 1 0 = 0
    rw [ih (fun i hi => h i (by omega)), ifp_f (h n (by omega))]
theorem cnt_add1 {P Q : Nat → Prop} {n i : Nat} (hi : i < n) (hP : ¬ P i) (h : ∀ j, j < n → (Q j ↔ P j ∨ j = i)) : cnt Q n = cnt P n + 1 := by
  induction n with
  | zero => omega
  | succ n ih =>
    show cnt Q n + ifp (Q n) 1 0 = cnt P n + ifp (P n) 1 0 + 1
    by_cases e : i = n
    · subst e
      have h1 : cnt Q i = cnt P i := cnt_congr (fun j hj => by rw [h j (by omega)]; exact ⟨fun q => q.elim id (fun q => by omega), Or.inl⟩)
      rw [h1, ifp_t ((h i (by omega)).mpr (Or.inr rfl)), ifp_f hP]
    · rw [ih (by omega) (fun j hj => h j (by omega))]
      by_cases hp : P n
      · rw [ifp_t hp, ifp_t ((h n (by omega)).mpr (Or.inl hp))]
      · rw [ifp_f hp, ifp_f (fun q => ((h n (by omega)).mp q).elim hp (fun q => e q.symm))]
theorem cnt_full {P : Nat → Prop} {n : Nat} (h : cnt P n = n) : ∀ i, i < n → P i := by
  induction n with
  | zero => intro i hi; omega
  | succ n ih =>
    have h1 : cnt P n + ifp (P n) 1 0 = n + 1 := h
    have h2 := cnt_le P n
    by_cases hp : P n
    · rw [ifp_t hp] at h1
      intro i hi
      rcases Nat.lt_or_ge i n with q | q
      · exact ih (by omega) i q
      · rw [show i = n by omega]; exact hp
    · rw [ifp_f hp] at h1
      omega
section
variable {e n : Nat}
/-- the place at which a vector begins -/
def fp (w : Vc e) (i : Nat) : Prop := w i ≠ 0 ∧ ∀ j, j < i → w j = 0
def Lp (S : Vc e → Prop) (i : Nat) : Prop := ∃ w, S w ∧ fp w i
noncomputable def dm (n : Nat) (S : Vc e → Prop) : Nat := cnt (Lp S) n
theorem fp_ex {w : Vc e} (hs : sup n w) (h : w ≠ z0) : ∃ i, i < n ∧ fp w i := by
  have h1 : ∃ i, w i ≠ 0 := by
    apply Classical.byContradiction
    intro q
    apply h
    funext i
    apply Classical.byContradiction
    intro q2
    exact q ⟨i, q2⟩
  obtain ⟨i, h2, h3⟩ := pk_least (fun i => w i ≠ 0) h1
  refine ⟨i, ?_, h2, fun j hj => Classical.byContradiction (h3 j hj)⟩
  rcases Nat.lt_or_ge i n with q | q
  · exact q
  · exact absurd (hs i q) h2
theorem fp_uniq {w : Vc e} {i j : Nat} (h1 : fp w i) (h2 : fp w j) : i = j := by
  rcases Nat.lt_trichotomy i j with q | q | q
  · exact absurd (h2.2 i q) h1.1
  · exact q
  · exact absurd (h1.2 j q) h2.1
theorem fp_ne {w : Vc e} {i : Nat} (h : fp w i) : w ≠ z0 := fun q => h.1 (by rw [q]; rfl)
/-- a vector outside the space, changed by one of the space, begins where none of the space does -/
theorem fp_new {S : Vc e → Prop} (he : e ≤ 1) (hS : Sub n S) {x : Vc e} (hx : sup n x) (hn : ¬ S x) : ∃ x' i, i < n ∧ fp x' i ∧ ¬ Lp S i ∧ S (lc x' (-1) x) := by
  have key : ∀ k : Nat, ∀ y : Vc e, sup n y → S (lc y (-1) x) → ∀ i, fp y i → n - i ≤ k → ∃ x' i, i < n ∧ fp x' i ∧ ¬ Lp S i ∧ S (lc x' (-1) x) := by
    intro k
    induction k with
    | zero =>
      intro y hy hyS i hi hk
      exact absurd (hy i (by omega)) hi.1
    | succ k ih =>
      intro y hy hyS i hi hk
      have hin : i < n := by
        rcases Nat.lt_or_ge i n with q | q
        · exact q
        · exact absurd (hy i q) hi.1
      by_cases hL : Lp S i
      · obtain ⟨w, hw, hfi⟩ := hL
        -- reduce y by w
        have hz : sup n (lc y (-(y i * w i)) w) := sup_lc hy (hS.2.2 w hw)
        have hzi : lc y (-(y i * w i)) w i = 0 := by
          have h1 := sq1 he hfi.1
          show y i + -(y i * w i) * w i = 0
          have : y i + -(y i * w i) * w i = y i - y i * (w i * w i) := by grind
          rw [this, h1]
          grind
        have hzS : S (lc (lc y (-(y i * w i)) w) (-1) x) := by
          have h1 := hS.2.1 _ _ (-(y i * w i)) hyS hw
          have e1 : lc (lc y (-1) x) (-(y i * w i)) w = lc (lc y (-(y i * w i)) w) (-1) x := by
            funext j
            unfold lc
            grind
          rw [e1] at h1
          exact h1
        have hne : lc y (-(y i * w i)) w ≠ z0 := by
          intro q
          rw [q] at hzS
          apply hn
          have h2 := sub_sc hS hzS (-1)
          have e2 : (fun j => -1 * lc z0 (-1) x j) = x := by
            funext j
            unfold lc z0
            grind
          rw [e2] at h2
          exact h2
        obtain ⟨i2, h1, h2⟩ := fp_ex hz hne
        have hlt : i < i2 := by
          rcases Nat.lt_trichotomy i i2 with q | q | q
          · exact q
          · subst q
            exact absurd hzi h2.1
          · exfalso
            apply h2.1
            show y i2 + -(y i * w i) * w i2 = 0
            rw [hi.2 i2 q, hfi.2 i2 q]
            grind
        exact ih _ hz hzS i2 h2 (by omega)
      · exact ⟨y, i, hin, hi, hL, hyS⟩
  have hxz : x ≠ z0 := fun q => hn (by rw [q]; exact hS.1)
  obtain ⟨i, h1, h2⟩ := fp_ex hx hxz
  exact key n x hx (by rw [lc_neg]; exact hS.1) i h2 (by omega)
theorem Lp_ext {S : Vc e → Prop} (he : e ≤ 1) (hS : Sub n S) {x : Vc e} (hx : sup n x) (hn : ¬ S x) : ∃ i, i < n ∧ ¬ Lp S i ∧ ∀ j, Lp (ext S x) j ↔ Lp S j ∨ j = i := by
  obtain ⟨x', i, hi, hfp, hL, hxS⟩ := fp_new he hS hx hn
  refine ⟨i, hi, hL, fun j => ⟨?_, ?_⟩⟩
  · rintro ⟨w, ⟨c, hc⟩, hj⟩
    -- w + c x in S; so w + c x' in S
    have h1 : S (lc w c x') := by
      have h1 := hS.2.1 _ _ c hc hxS
      have e1 : lc (lc w c x) c (lc x' (-1) x) = lc w c x' := by
        funext j
        unfold lc
        grind
      rw [e1] at h1
      exact h1
    by_cases hc0 : c = 0
    · subst hc0
      rw [lc_0] at h1
      exact Or.inl ⟨w, h1, hj⟩
    · rcases Nat.lt_trichotomy j i with q | q | q
      · refine Or.inl ⟨_, h1, ?_, fun k hk => ?_⟩
        · show w j + c * x' j ≠ 0
          rw [hfp.2 j q]
          intro q2
          apply hj.1
          grind
        · show w k + c * x' k = 0
          rw [hfp.2 k (by omega), hj.2 k hk]
          grind
      · exact Or.inr q
      · exfalso
        apply hL
        refine ⟨_, h1, ?_, fun k hk => ?_⟩
        · show w i + c * x' i ≠ 0
          rw [hj.2 i q]
          intro q2
          have h3 := sq1 he hc0
          apply hfp.1
          have : x' i = c * c * x' i := by rw [h3]; grind
          rw [this]
          have : c * c * x' i = c * (0 + c * x' i) := by grind
          rw [this, q2]
          grind
        · show w k + c * x' k = 0
          rw [hfp.2 k hk, hj.2 k (by omega)]
          grind
  · rintro (⟨w, hw, hj⟩ | rfl)
    · exact ⟨w, ext_old hw, hj⟩
    · refine ⟨x', ⟨-1, hxS⟩, hfp⟩
theorem dm_ext {S : Vc e → Prop} (he : e ≤ 1) (hS : Sub n S) {x : Vc e} (hx : sup n x) (hn : ¬ S x) : dm n (ext S x) = dm n S + 1 := by
  obtain ⟨i, h1, h2, h3⟩ := Lp_ext he hS hx hn
  exact cnt_add1 h1 h2 (fun j _ => h3 j)
theorem dm_zero : dm n (fun w : Vc e => w = z0) = 0 := cnt_zero (fun i _ h => by
  obtain ⟨w, rfl, hf⟩ := h
  exact hf.1 rfl)
theorem dm_le (S : Vc e → Prop) : dm n S ≤ n := cnt_le _ _
theorem dm_congr {S T : Vc e → Prop} (h : ∀ w, S w ↔ T w) : dm n S = dm n T := cnt_congr (fun i _ => ⟨fun ⟨w, h1, h2⟩ => ⟨w, (h w).mp h1, h2⟩, fun ⟨w, h1, h2⟩ => ⟨w, (h w).mpr h1, h2⟩⟩)
/-- the span of a list -/
def spn (T : List (Vc e)) : Vc e → Prop := T.foldl ext (fun w => w = z0)
theorem spn_nil : spn ([] : List (Vc e)) = fun w => w = z0 := rfl
theorem spn_app (T : List (Vc e)) (x : Vc e) : spn (T ++ [x]) = ext (spn T) x := by
  unfold spn
  rw [List.foldl_append]
  rfl
theorem spn_sub : ∀ {T : List (Vc e)}, (∀ x ∈ T, sup n x) → Sub n (spn T) := by
  intro T
  unfold spn
  have key : ∀ (T : List (Vc e)) (S : Vc e → Prop), Sub n S → (∀ x ∈ T, sup n x) → Sub n (T.foldl ext S) := by
    intro T
    induction T with
    | nil => intro S hS _; exact hS
    | cons x T ih =>
      intro S hS h
      exact ih _ (ext_sub hS (h x List.mem_cons_self)) (fun y hy => h y (List.mem_cons_of_mem _ hy))
  exact key T _ Sub.zero
end
