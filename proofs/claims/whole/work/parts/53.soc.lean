/-! Dimensions of spaces in spaces; a simple spun space. -/
section
variable {e n : Nat} {A : Nat → Nat → Nat → Kf e}
theorem cnt_sub {P Q : Nat → Prop} : ∀ {n : Nat}, (∀ i, i < n → P i → Q i) → cnt P n ≤ cnt Q n
  | 0, _ => Nat.le_refl _
  | n + 1, h => by
    have ih := cnt_sub (P := P) (Q := Q) (n := n) (fun i hi => h i (by omega))
    show cnt P n + ifp (P n) 1 0 ≤ cnt Q n + ifp (Q n) 1 0
    by_cases hP : P n
    · rw [ifp_t hP, ifp_t (h n (by omega) hP)]
      omega
    · rw [ifp_f hP]
      omega
theorem dm_mono {S U : Vc e → Prop} (h : ∀ w, S w → U w) : dm n S ≤ dm n U := cnt_sub (fun _ _ ⟨w, hw, hf⟩ => ⟨w, h w hw, hf⟩)
theorem dm_all {S U : Vc e → Prop} (he : e ≤ 1) (hS : Sub n S) (hU : Sub n U) (h : ∀ w, S w → U w) (hd : dm n U ≤ dm n S) : ∀ w, U w → S w := by
  intro w hw
  apply Classical.byContradiction
  intro hn
  have h1 := dm_ext he hS (hU.2.2 w hw) hn
  have h2 := dm_mono (n := n) (S := ext S w) (U := U) (fun u hu => ext_min hU h hw hu)
  omega
theorem inv_z0 : Inv n A (spn ([] : List (Vc e))) := fun g _ w hw => by
  have : w = z0 := hw
  rw [this]
  exact mv_z0
/-- the space that a vector spins -/
def spS (n : Nat) (A : Nat → Nat → Nat → Kf e) (v : Vc e) : Vc e → Prop := spn (spin n A [] v)
theorem spS_ok (he : e ≤ 1) (hn : n ≤ 6) {v : Vc e} (hv : sup n v) : Sub n (spS n A v) ∧ Inv n A (spS n A v) ∧ spS n A v v := by
  have h := spin_inv (A := A) he hn Good.nil inv_z0 hv
  exact ⟨(spin_good he Good.nil hv).sub, h.1, h.2.2⟩
theorem spS_min {U : Vc e → Prop} (hU : Sub n U) (hI : Inv n A U) {v : Vc e} (hv : U v) : ∀ w, spS n A v w → U w := spn_min hU (spin_min hU hI (fun _ h => absurd h List.not_mem_nil) hv)
theorem sl_dm (he : e ≤ 1) (v : Int) : sl n A v = dm n (spS n A (toV e n v)) := (spin_good he Good.nil toV_sup).2.symm
theorem sl_in (he : e ≤ 1) (hn : n ≤ 6) {v w : Int} (h : spS n A (toV e n v) (toV e n w)) : sl n A w ≤ sl n A v := by
  obtain ⟨h1, h2, -⟩ := spS_ok (A := A) he hn (toV_sup (e := e) (n := n) (v := v))
  rw [sl_dm he, sl_dm he]
  exact dm_mono (spS_min h1 h2 h)
theorem smp_ex (he : e ≤ 1) (hn : n ≤ 6) (h1 : 1 ≤ n) : ∃ v : Int, 1 ≤ v ∧ v < pI e ^ n ∧ smp n A v := by
  have h2 : 2 ≤ pI e ^ n := by
    have := pw_le (pI23 he) h1
    have h3 := (pI23 he).b
    rw [Int.pow_succ, Int.pow_zero, Int.one_mul] at this
    omega
  have key : ∀ (d : Nat) (v : Int), 1 ≤ v → v < pI e ^ n → sl n A v ≤ d → ∃ v : Int, 1 ≤ v ∧ v < pI e ^ n ∧ smp n A v := by
    intro d
    induction d with
    | zero =>
      intro v a1 a2 a3
      refine ⟨v, a1, a2, fun w b1 b2 b3 => ?_⟩
      have := sl_in he hn b3
      omega
    | succ d ih =>
      intro v a1 a2 a3
      by_cases hs : smp n A v
      · exact ⟨v, a1, a2, hs⟩
      · have : ∃ w : Int, 1 ≤ w ∧ w < pI e ^ n ∧ spS n A (toV e n v) (toV e n w) ∧ sl n A w ≠ sl n A v := by
          apply Classical.byContradiction
          intro q
          apply hs
          intro w b1 b2 b3
          apply Classical.byContradiction
          intro q2
          exact q ⟨w, b1, b2, b3, q2⟩
        obtain ⟨w, b1, b2, b3, b4⟩ := this
        have := sl_in he hn b3
        exact ih w b1 b2 (by omega)
  exact key (sl n A 1) 1 (by omega) (by omega) (Nat.le_refl _)
theorem scT_mem (he : e ≤ 1) : ∀ (m : Nat) (v : Int), 1 ≤ v → v ≤ m → smp n A v → spn (scT n A m) (toV e n v)
  | 0, v, h1, h2, _ => by omega
  | m + 1, v, h1, h2, h3 => by
    have hG := scT_good he (n := n) (A := A) m
    unfold scT
    by_cases hv : v = (m : Int) + 1
    · subst hv
      rw [ifp_t h3]
      exact (addv_ex hG.1 toV_sup).2
    · have ih := scT_mem he m v h1 (by omega) h3
      by_cases hs : smp n A ((m : Int) + 1)
      · rw [ifp_t hs]
        obtain ⟨⟨R, hR⟩, -⟩ := addv_ex hG.1 (toV_sup (e := e) (n := n) (v := (m : Int) + 1))
        rw [hR]
        exact spn_mono _ ih
      · rw [ifp_f hs]
        exact ih
theorem scT_pos (he : e ≤ 1) (hn : n ≤ 6) (h1 : 1 ≤ n) : 1 ≤ (scT n A (pI e ^ n - 1).toNat).length := by
  obtain ⟨v, v1, v2, v3⟩ := smp_ex (A := A) he hn h1
  have h := scT_mem he (pI e ^ n - 1).toNat v v1 (by omega) v3
  apply Classical.byContradiction
  intro q
  have h0 : scT n A (pI e ^ n - 1).toNat = [] := List.eq_nil_of_length_eq_zero (by omega)
  rw [h0] at h
  have hz : toV e n v = z0 := h
  have hu : num n (toV e n v) = v := num_toV he (by omega) v2
  have := (num_eq0 he toV_sup).mpr hz
  omega
end
