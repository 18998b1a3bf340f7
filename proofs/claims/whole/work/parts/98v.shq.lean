/-! What sharedWith adds up is what two lists share. -/
section
theorem cnY_count {F : List (Nat × List Int)} (hF : ∀ u ∈ F, isT u) {t : Nat × List Int} (ht : isT t) : cnY F t = F.count t := by
  unfold cnY List.count
  refine List.countP_congr (fun u hu => ?_)
  have h1 := cmY_z (hF u hu) ht
  constructor
  · intro h
    have h2 : cmY u t = 0 := of_decide_eq_true h
    rw [h1.mp h2]
    exact beq_self_eq_true t
  · intro h
    have h2 : u = t := eq_of_beq h
    exact decide_eq_true (h1.mpr h2)
theorem shQ_sum {f : Nat → Nat × List Int} {F G : List (Nat × List Int)} {p : Nat} (hf : ∀ k, k < p → isT (f k)) (hs : ∀ i j, i < j → j < p → cmY (f i) (f j) ≤ 0) (hF : ∀ u ∈ F, isT u) (hG : ∀ u ∈ G, isT u) : ∀ q, q ≤ p → ∃ D : List (Nat × List Int), D.Nodup ∧ (∀ k, k < q → f k ∈ D) ∧ (∀ t ∈ D, ∃ k, k < q ∧ t = f k) ∧ shQ f F G q = sL (fun t => min (F.count t) (G.count t)) D
  | 0, _ => ⟨[], List.nodup_nil, fun k h => absurd h (Nat.not_lt_zero k), fun t h => absurd h List.not_mem_nil, rfl⟩
  | q + 1, hq => by
    obtain ⟨D, d1, d2, d3, d4⟩ := shQ_sum hf hs hF hG q (by omega)
    have hst : shQ f F G (q + 1) = shQ f F G q + (if q = 0 ∨ cmY (f q) (f (q - 1)) ≠ 0 then min (cnY F (f q)) (cnY G (f q)) else 0) := rfl
    by_cases w : q = 0 ∨ cmY (f q) (f (q - 1)) ≠ 0
    · have hnot : f q ∉ D := fun hin => by
        obtain ⟨k, k1, k2⟩ := d3 _ hin
        rcases w with w | w
        · omega
        · apply w
          have n1 := cmY_neg (t := f q) (u := f (q - 1))
          have s1 := hs (q - 1) q (by omega) (by omega)
          by_cases z : k = q - 1
          · rw [k2, z]
            exact (cmY_z (hf _ (by omega)) (hf _ (by omega))).mpr rfl
          · have s2 := hs k (q - 1) (by omega) (by omega)
            rw [← k2] at s2
            omega
      refine ⟨f q :: D, List.nodup_cons.mpr ⟨hnot, d1⟩, fun k hk => ?_, fun t ht => ?_, ?_⟩
      · by_cases z : k = q
        · rw [z]
          exact List.mem_cons_self
        · exact List.mem_cons_of_mem _ (d2 k (by omega))
      · rcases List.mem_cons.mp ht with z | z
        · exact ⟨q, by omega, z⟩
        · obtain ⟨k, k1, k2⟩ := d3 t z
          exact ⟨k, by omega, k2⟩
      · rw [hst, if_pos w, d4, cnY_count hF (hf q (by omega)), cnY_count hG (hf q (by omega))]
        exact Nat.add_comm _ _
    · have hq0 : q ≠ 0 := fun z => w (Or.inl z)
      have heq : f q = f (q - 1) := (cmY_z (hf _ (by omega)) (hf _ (by omega))).mp (Classical.byContradiction (fun z => w (Or.inr z)))
      refine ⟨D, d1, fun k hk => ?_, fun t ht => ?_, ?_⟩
      · by_cases z : k = q
        · rw [z, heq]
          exact d2 (q - 1) (by omega)
        · exact d2 k (by omega)
      · obtain ⟨k, k1, k2⟩ := d3 t ht
        exact ⟨k, by omega, k2⟩
      · rw [hst, if_neg w, d4]
        rfl
theorem shQ_com {e n m : Nat} {A C : Nat → Nat → Nat → Kf e} {f g : Nat → Nat × List Int} {p p' : Nat} (h1 : srtL n A ((List.range p).map f)) (h2 : srtL m C ((List.range p').map g)) : comP n A m C (shQ f ((List.range p).map f) ((List.range p').map g) p : Nat) := by
  have hpw := List.pairwise_map.mp h1.2.1
  have hs : ∀ i j, i < j → j < p → cmY (f i) (f j) ≤ 0 := fun i j hij hj => by
    have := List.pairwise_iff_getElem.mp hpw i j (by rw [List.length_range]; omega) (by rw [List.length_range]; omega) hij
    rw [List.getElem_range, List.getElem_range] at this
    exact this
  obtain ⟨D, d1, d2, -, d4⟩ := shQ_sum (f := f) (p := p) (fun k hk => h1.2.2 _ (List.mem_map.mpr ⟨k, List.mem_range.mpr hk, rfl⟩)) hs h1.2.2 h2.2.2 p (Nat.le_refl _)
  refine ⟨_, _, h1, h2, D, d1, fun t ht => ?_, by rw [d4]⟩
  obtain ⟨k, hk, rfl⟩ := List.mem_map.mp ht
  exact d2 k (List.mem_range.mp hk)
end
