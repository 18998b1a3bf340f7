/-! The form of a simple part is simple and is its own form. -/
section
variable {e n m : Nat}
theorem lsv_smp (he : e ≤ 1) (hn : n ≤ 6) {A : Nat → Nat → Nat → Kf e} {v : Int} (h : lsv n A v) : smp n A v := fun w w1 w2 hin => by
  have h1 := sl_in he hn (v := v) (w := w) hin
  have h2 := h.2.2 w w1 w2
  omega
theorem sim_iso {T B : Nat → Nat → Nat → Kf e} {ψ : Vc e → Vc e} (h : isoM m T m B ψ) (hs : smM m B) : smM m T := by
  obtain ⟨θ, k⟩ := iso_inv h
  have r : Rep m B zS (sup m) m T θ := ⟨k.1, k.2.1, fun v hv => ⟨k.2.2.1 v hv, fun q => by
    have : v = z0 := q
    rw [this, iso_z0 k]⟩, k.2.2.2.1, k.2.2.2.2⟩
  refine ⟨hs.1, hs.2.1, fun X hX => ?_⟩
  rcases hs.2.2 _ (pre_SI r SI_all hX) with q | q
  · left
    intro x hx
    obtain ⟨w, w1, w2⟩ := k.2.2.2.1 x (hX.1.2.2 x hx)
    have h0 := q w ⟨w1, by rw [w2]; exact hx⟩
    rw [← w2, h0, iso_z0 k]
  · right
    intro x hx
    obtain ⟨w, w1, w2⟩ := k.2.2.2.1 x hx
    rw [← w2]
    exact (q w w1).2
theorem frm_own (he : e ≤ 1) {B Tb : Nat → Nat → Nat → Kf e} (hs : smM m B) (hc : canP m B (sqA m Tb)) : smM m Tb ∧ canP m Tb (sqA m Tb) := by
  have hc2 := hc
  obtain ⟨⟨v, v1, v2, v3⟩, -⟩ := hc
  have h1 : isoM m Tb m (tel m B v) (fun v => v) := iso_cg (fun g i j hg hi hj => sqA_inj he v3 hg hi hj)
  have h2 := iso_comp h1 (tel_iso he hs v1 v2)
  have h3 := sim_iso h2 hs
  obtain ⟨θ, k⟩ := iso_inv h2
  exact ⟨h3, iso_can he k hs hc2⟩
end
