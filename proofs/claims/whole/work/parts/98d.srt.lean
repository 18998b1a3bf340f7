/-! A module and its told form; lists of types in order. -/
section
variable {e n m : Nat}
theorem cmb_un {T : List (Vc e)} {i : Nat} (hi : i < T.length) : cmb T (un i) = T.getD i z0 := by
  funext k
  unfold cmb
  refine sK_one' i hi (fun j _ hj => ?_) ?_
  · unfold un
    rw [if_neg hj]
    grind
  · unfold un
    rw [if_pos rfl]
    grind
theorem tel_iso (he : e ≤ 1) {B : Nat → Nat → Nat → Kf e} (hs : smM m B) {v : Vc e} (hv : sup m v) (hz : v ≠ z0) : isoM m (tel m B v) m B (cmb (spin m B [] v)) := by
  obtain ⟨hf, hl⟩ := sim_full he hs hv hz
  have hG : Good m (spin m B [] v) := spin_good he Good.nil hv
  refine ⟨fun u c w _ _ => cmb_lc _ u w c, fun w _ => cmb_in (SI_all (A := B)).1 _ hG.1 w, fun w hw h => ?_, fun y hy => ?_, fun g hg w hw => ?_⟩
  · have h1 := cmb_z he _ hG w h
    exact sup_ext hw sup_z0 (fun i hi => h1 i (by omega))
  · obtain ⟨c, c1, c2⟩ := (spn_cmb _ _).mp (hf y hy)
    exact ⟨c, by rw [hl] at c1; exact c1, c2⟩
  · refine lin_ext (n := m) (L := fun w => cmb (spin m B [] v) (mv m (tel m B v g) w)) (L' := fun w => mv m (B g) (cmb (spin m B [] v) w)) (fun u c w => ?_) (fun u c w => ?_) (fun i hi => ?_) hw
    · dsimp only
      rw [mv_lc, cmb_lc]
    · dsimp only
      rw [cmb_lc, mv_lc]
    · rw [cmb_un (by omega), mv_un hi]
      obtain ⟨c1, c2⟩ := cod_spec (hf _ (sup_mv (n := m) (A := B g) (v := (spin m B [] v).getD i z0)))
      have e1 : (fun j => if j < m then tel m B v g i j else 0) = cod (spin m B [] v) (mv m (B g) ((spin m B [] v).getD i z0)) := by
        funext j
        by_cases q : j < m
        · rw [if_pos q]
          rfl
        · rw [if_neg q, c1 j (by omega)]
      rw [e1, c2]
/-- entries beyond the size do not count -/
theorem mv_cg {B B' : Nat → Nat → Kf e} (h : ∀ i j, i < n → j < n → B i j = B' i j) (v : Vc e) : mv n B v = mv n B' v := by
  funext j
  unfold mv
  by_cases q : j < n
  · rw [if_pos q, if_pos q]
    exact sK_congr (fun i hi => by rw [h i j hi q])
  · rw [if_neg q, if_neg q]
theorem iso_cg {B B' : Nat → Nat → Nat → Kf e} (h : ∀ g i j, g < 2 → i < n → j < n → B g i j = B' g i j) : isoM n B n B' (fun v => v) := ⟨fun _ _ _ _ _ => rfl, fun _ h => h, fun _ _ h => h, fun y hy => ⟨y, hy, rfl⟩, fun g hg w _ => mv_cg (fun i j hi hj => h g i j hg hi hj) w⟩
theorem sqA_inj (he : e ≤ 1) {B B' : Nat → Nat → Nat → Kf e} (h : ∀ c, c < 2 * (n * n) → sqA n B c = sqA n B' c) {g i j : Nat} (hg : g < 2) (hi : i < n) (hj : j < n) : B g i j = B' g i j := by
  have hlt : g * (n * n) + i * n + j < 2 * (n * n) := by
    have h1 : (i + 1) * n ≤ n * n := Nat.mul_le_mul_right n hi
    have h2 : (g + 1) * (n * n) ≤ 2 * (n * n) := Nat.mul_le_mul_right _ hg
    rw [Nat.succ_mul] at h1 h2
    omega
  have h1 := h _ hlt
  rw [sqA_at hi hj, sqA_at hi hj] at h1
  exact vl_inj h1
theorem iso_comp {n' n'' : Nat} {A B C : Nat → Nat → Nat → Kf e} {ψ θ : Vc e → Vc e} (h : isoM n A n' B ψ) (k : isoM n' B n'' C θ) : isoM n A n'' C (fun v => θ (ψ v)) := by
  refine ⟨fun u c w hu hw => ?_, fun w hw => k.2.1 _ (h.2.1 w hw), fun w hw q => h.2.2.1 w hw (k.2.2.1 _ (h.2.1 w hw) q), fun y hy => ?_, fun g hg w hw => ?_⟩
  · dsimp only
    rw [h.1 _ _ _ hu hw, k.1 _ _ _ (h.2.1 u hu) (h.2.1 w hw)]
  · obtain ⟨z, z1, z2⟩ := k.2.2.2.1 y hy
    obtain ⟨x, x1, x2⟩ := h.2.2.2.1 z z1
    exact ⟨x, x1, by dsimp only; rw [x2, z2]⟩
  · dsimp only
    rw [h.2.2.2.2 g hg w hw, k.2.2.2.2 g hg _ (h.2.1 w hw)]
/-- two simple modules of one sequence are isomorphic -/
theorem can_iso (he : e ≤ 1) {B B' : Nat → Nat → Nat → Kf e} (hs : smM m B) (hs' : smM m B') {F : Nat → Int} (hF : canP m B F) (hF' : canP m B' F) : ∃ ψ, isoM m B m B' ψ := by
  obtain ⟨⟨v, v1, v2, v3⟩, -⟩ := hF
  obtain ⟨⟨w, w1, w2, w3⟩, -⟩ := hF'
  obtain ⟨ψ, hψ⟩ := iso_inv (tel_iso he hs v1 v2)
  have h2 : isoM m (tel m B v) m (tel m B' w) (fun v => v) := iso_cg (fun g i j hg hi hj => sqA_inj he (fun c hc => (v3 c hc).symm.trans (w3 c hc)) hg hi hj)
  exact ⟨_, iso_comp (iso_comp hψ h2) (tel_iso he hs' w1 w2)⟩
/-- the order of types -/
def cmY (t u : Nat × List Int) : Int := cmpT t.1 u.1 (fun c => t.2.getD c 0) (fun c => u.2.getD c 0)
theorem ty_getD {F : Nat → Int} {c : Nat} (hc : c < 2 * (m * m)) : (ty m F).2.getD c 0 = F c := by
  unfold ty
  rw [List.getD_eq_getElem?_getD, List.getElem?_map, List.getElem?_range hc]
  rfl
theorem cmY_ty {F G : Nat → Int} : cmY (ty n F) (ty m G) = cmpT n m F G := by
  unfold cmY cmpT
  show (if n = m then fdx _ _ (2 * (n * n)) else _) = _
  by_cases q : n = m
  · subst q
    rw [if_pos rfl, if_pos rfl]
    exact fdx_congr (fun c hc => ⟨ty_getD hc, ty_getD hc⟩)
  · rw [if_neg q, if_neg q]
    rfl
def isT (t : Nat × List Int) : Prop := ∃ m F, t = ty m F
theorem cmY_neg {t u : Nat × List Int} : cmY t u = -(cmY u t) := by
  unfold cmY cmpT
  by_cases q : t.1 = u.1
  · rw [if_pos q, if_pos q.symm, fdx_neg, q]
  · rw [if_neg q, if_neg (fun z => q z.symm)]
    omega
theorem cmY_z {t u : Nat × List Int} (ht : isT t) (hu : isT u) : cmY t u = 0 ↔ t = u := by
  obtain ⟨n, F, rfl⟩ := ht
  obtain ⟨m, G, rfl⟩ := hu
  rw [cmY_ty]
  unfold cmpT
  by_cases q : n = m
  · subst q
    rw [if_pos rfl, fdx_z]
    constructor
    · exact fun h => ty_eq h
    · intro h c hc
      have h1 := congrArg (fun t => t.2.getD c 0) h
      rw [ty_getD hc, ty_getD hc] at h1
      exact h1
  · rw [if_neg q]
    constructor
    · intro h
      omega
    · intro h
      exact absurd (congrArg Prod.fst h) q
theorem cmY_trans {t u w : Nat × List Int} (h1 : cmY t u ≤ 0) (h2 : cmY u w ≤ 0) : cmY t w ≤ 0 := by
  have g1 := cmY_neg (t := t) (u := u)
  have g2 := cmY_neg (t := u) (u := w)
  have g3 := cmY_neg (t := t) (u := w)
  suffices 0 ≤ cmY w t by omega
  have k1 : 0 ≤ cmY u t := by omega
  have k2 : 0 ≤ cmY w u := by omega
  unfold cmY cmpT at *
  by_cases q1 : w.1 = u.1
  · by_cases q2 : u.1 = t.1
    · rw [if_pos (q1.trans q2)]
      rw [if_pos q2] at k1
      rw [if_pos q1] at k2
      rw [q1] at k2 ⊢
      exact (fdx_trans k2 k1).1
    · rw [if_neg (fun z => q2 (q1.symm.trans z))]
      rw [if_neg q2] at k1
      omega
  · rw [if_neg q1] at k2
    by_cases q2 : u.1 = t.1
    · rw [if_neg (fun z => q1 (z.trans q2.symm))]
      omega
    · rw [if_neg q2] at k1
      rw [if_neg (by omega)]
      omega
def srt (L : List (Nat × List Int)) : Prop := L.Pairwise (fun t u => cmY t u ≤ 0)
theorem srt_eq {L L' : List (Nat × List Int)} (ht : ∀ t ∈ L, isT t) (ht' : ∀ t ∈ L', isT t) (h : L.Perm L') (hs : srt L) (hs' : srt L') : L = L' :=
  List.Perm.eq_of_pairwise (le := fun t u => cmY t u ≤ 0) (fun a b ha hb h1 h2 => (cmY_z (ht a ha) (ht' b hb)).mp (by
    have := cmY_neg (t := a) (u := b)
    omega)) hs hs' h
end
