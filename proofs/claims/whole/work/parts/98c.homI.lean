/-! Isomorphic modules have as many homomorphisms. -/
section
variable {e n m N N' : Nat}
theorem good_in (he : e ≤ 1) {S : Vc e → Prop} (hS : Sub N S) : ∀ k : Nat, k ≤ dm N S → ∃ T, Good N T ∧ (∀ x ∈ T, S x) ∧ T.length = k
  | 0, _ => ⟨[], Good.nil, fun x hx => absurd hx List.not_mem_nil, rfl⟩
  | k + 1, hk => by
    obtain ⟨T, t1, t2, t3⟩ := good_in he hS k (by omega)
    obtain ⟨x, x1, x2⟩ : ∃ x, S x ∧ ¬ spn T x := by
      apply Classical.byContradiction
      intro q
      have h1 := dm_mono (n := N) (S := S) (U := spn T) (fun w hw => Classical.byContradiction (fun z => q ⟨w, hw, z⟩))
      rw [t1.2] at h1
      omega
    refine ⟨T ++ [x], t1.app he (hS.2.2 x x1) x2, fun y hy => ?_, by rw [List.length_append, List.length_singleton, t3]⟩
    rcases List.mem_append.mp hy with q | q
    · exact t2 y q
    · rw [List.mem_singleton.mp q]
      exact x1
theorem dm_inj (he : e ≤ 1) {S S' : Vc e → Prop} (hS : Sub N S) (hS' : Sub N' S') {L : Vc e → Vc e} (hL : linM L) (hm : ∀ w, S w → S' (L w)) (hi : ∀ w, S w → L w = z0 → w = z0) : dm N S ≤ dm N' S' := by
  obtain ⟨T, t1, t2, t3⟩ := good_in he hS (dm N S) (Nat.le_refl _)
  have key : ∀ T : List (Vc e), Good N T → (∀ x ∈ T, S x) → Good N' (T.map L) := by
    refine snoc_ind ?_ ?_
    · intro _ _
      exact Good.nil
    · intro T x ih hG hs
      obtain ⟨g1, g2⟩ := good_pre he hG
      have hT : ∀ y ∈ T, S y := fun y hy => hs y (List.mem_append_left _ hy)
      have hx := hs x (List.mem_append_right _ (List.mem_singleton.mpr rfl))
      rw [List.map_append, List.map_singleton]
      refine (ih g1 hT).app he (hS'.2.2 _ (hm x hx)) (fun q => g2 ?_)
      obtain ⟨c, c1, c2⟩ := (spn_cmb _ _).mp q
      rw [← cmb_map hL] at c2
      have h1 := hL x (-1) (cmb T c)
      rw [c2, lc_neg] at h1
      have h2 := lc_z_eq (hi _ (hS.2.1 _ _ _ hx (cmb_in hS T hT c)) h1)
      exact (spn_cmb _ _).mpr ⟨c, by rw [List.length_map] at c1; exact c1, h2.symm⟩
  have hG := key T t1 t2
  have h1 := dm_mono (n := N') (spn_min hS' (T := T.map L) (fun x hx => by
    obtain ⟨y, hy, rfl⟩ := List.mem_map.mp hx
    exact hm y (t2 y hy)))
  rw [hG.2, List.length_map, t3] at h1
  exact h1
theorem sK_add (f : Nat → Kf e) (a : Nat) : ∀ b : Nat, sK f (a + b) = sK f a + sK (fun k => f (a + k)) b
  | 0 => by
    show sK f a = sK f a + 0
    grind
  | b + 1 => by
    show sK f (a + b) + f (a + b) = sK f a + (sK (fun k => f (a + k)) b + f (a + b))
    rw [sK_add f a b]
    grind
theorem sK_two (f : Nat → Kf e) (m : Nat) : ∀ n : Nat, sK f (n * m) = sK (fun a => sK (fun b => f (a * m + b)) m) n
  | 0 => by
    rw [Nat.zero_mul]
    rfl
  | n + 1 => by
    rw [Nat.succ_mul, sK_add, sK_two f m n]
    rfl
theorem un_cmb {v : Vc e} (hv : sup n v) : v = cmb ((List.range n).map un) v := by
  funext k
  rw [cmb_rng]
  by_cases q : k < n
  · symm
    refine sK_one' k q (fun i _ hik => ?_) ?_
    · unfold un
      rw [if_neg (fun z => hik z.symm)]
      grind
    · unfold un
      rw [if_pos rfl]
      grind
  · rw [hv k (by omega)]
    symm
    refine sK_zero (fun i hi => ?_)
    unfold un
    rw [if_neg (by omega)]
    grind
theorem lin_ext {L L' : Vc e → Vc e} (hL : linM L) (hL' : linM L') (h : ∀ i, i < n → L (un i) = L' (un i)) {v : Vc e} (hv : sup n v) : L v = L' v := by
  rw [un_cmb hv, cmb_map hL, cmb_map hL', List.map_map, List.map_map]
  congr 1
  exact List.map_congr_left (fun i hi => h i (List.mem_range.mp hi))
/-- a vector as a map -/
def mpH (n m : Nat) (h v : Vc e) : Vc e := fun j => if j < m then sK (fun i => v i * h (i * m + j)) n else 0
theorem mpH_sup {h v : Vc e} : sup m (mpH n m h v) := fun j hj => if_neg (by omega)
theorem mpH_lin {h : Vc e} : linM (mpH n m h) := fun u c w => by
  funext j
  unfold mpH lc
  dsimp only
  by_cases q : j < m
  · rw [if_pos q, if_pos q, if_pos q, ← sK_lc]
    exact sK_congr (fun i _ => by grind)
  · rw [if_neg q, if_neg q, if_neg q]
    grind
theorem mpH_lin2 {v : Vc e} (u : Vc e) (c : Kf e) (w : Vc e) : mpH n m (lc u c w) v = lc (mpH n m u v) c (mpH n m w v) := by
  funext j
  unfold mpH lc
  dsimp only
  by_cases q : j < m
  · rw [if_pos q, if_pos q, if_pos q, ← sK_lc]
    exact sK_congr (fun i _ => by grind)
  · rw [if_neg q, if_neg q, if_neg q]
    grind
theorem mpH_un {h : Vc e} {i j : Nat} (hi : i < n) (hj : j < m) : mpH n m h (un i) j = h (i * m + j) := by
  unfold mpH
  rw [if_pos hj]
  refine sK_one' i hi (fun k _ hk => ?_) ?_
  · unfold un
    rw [if_neg hk]
    grind
  · unfold un
    rw [if_pos rfl]
    grind
variable {X Y : Nat → Nat → Nat → Kf e}
theorem sK_sub {f g : Nat → Kf e} : sK (fun i => f i - g i) n = sK f n - sK g n := by
  have h := sK_lc (f := f) (g := g) (c := -1) (m := n)
  have e1 : sK (fun i => f i - g i) n = sK (fun i => f i + -1 * g i) n := sK_congr (fun i _ => by grind)
  rw [e1, h]
  grind
theorem dot_eqV {h : Vc e} {g i j : Nat} (hi : i < n) (hj : j < m) : dot (n * m) (eqV n m X Y g i j) h = mpH n m h (mv n (X g) (un i)) j - mv m (Y g) (mpH n m h (un i)) j := by
  have hm : 0 < m := by omega
  have e1 : dot (n * m) (eqV n m X Y g i j) h = sK (fun a => sK (fun b => (if b = j then X g i a * h (a * m + b) else 0) - (if a = i then h (a * m + b) * Y g b j else 0)) m) n := by
    unfold dot
    rw [sK_two]
    refine sK_congr (fun a ha => sK_congr (fun b hb => ?_))
    have hlt : a * m + b < n * m := by
      have : (a + 1) * m ≤ n * m := Nat.mul_le_mul_right m ha
      rw [Nat.succ_mul] at this
      omega
    have hd : (a * m + b) / m = a := by
      rw [Nat.mul_comm, Nat.mul_add_div hm, Nat.div_eq_of_lt hb]
      rfl
    have hr : (a * m + b) % m = b := by
      rw [Nat.mul_comm, Nat.mul_add_mod, Nat.mod_eq_of_lt hb]
    unfold eqV
    rw [if_pos hlt, hd, hr]
    by_cases q : b = j
    · rw [if_pos q, if_pos q]
      by_cases z : a = i
      · rw [if_pos z, if_pos z]
        grind
      · rw [if_neg z, if_neg z]
        grind
    · rw [if_neg q, if_neg q]
      by_cases z : a = i
      · rw [if_pos z, if_pos z]
        grind
      · rw [if_neg z, if_neg z]
        grind
  have e2 : mpH n m h (mv n (X g) (un i)) j = sK (fun a => sK (fun b => if b = j then X g i a * h (a * m + b) else 0) m) n := by
    unfold mpH
    rw [if_pos hj]
    refine sK_congr (fun a ha => ?_)
    rw [mv_un hi]
    dsimp only
    rw [if_pos ha]
    symm
    exact sK_one' j hj (fun k _ hk => if_neg hk) (if_pos rfl)
  have e3 : mv m (Y g) (mpH n m h (un i)) j = sK (fun a => sK (fun b => if a = i then h (a * m + b) * Y g b j else 0) m) n := by
    symm
    refine sK_one' i hi (fun k _ hk => sK_zero (fun b _ => if_neg hk)) ?_
    unfold mv
    rw [if_pos hj]
    exact sK_congr (fun b hb => by rw [if_pos rfl, mpH_un hi hb])
  rw [e1, e2, e3, ← sK_sub]
  exact sK_congr (fun a _ => sK_sub)
theorem hom_iff {h : Vc e} : hom n m X Y h ↔ sup (n * m) h ∧ ∀ g, g < 2 → ∀ v, sup n v → mpH n m h (mv n (X g) v) = mv m (Y g) (mpH n m h v) := by
  constructor
  · rintro ⟨h1, h2⟩
    refine ⟨h1, fun g hg v hv => ?_⟩
    refine lin_ext (L := fun v => mpH n m h (mv n (X g) v)) (L' := fun v => mv m (Y g) (mpH n m h v)) (fun u c w => ?_) (fun u c w => ?_) (fun i hi => ?_) hv
    · dsimp only
      rw [mv_lc, mpH_lin]
    · dsimp only
      rw [mpH_lin, mv_lc]
    · refine sup_ext mpH_sup sup_mv (fun j hj => ?_)
      have h3 := h2 g i j hg hi hj
      rw [dot_eqV hi hj] at h3
      grind
  · rintro ⟨h1, h2⟩
    refine ⟨h1, fun g i j hg hi hj => ?_⟩
    rw [dot_eqV hi hj, h2 g hg _ (un_sup hi)]
    grind
def cdH (n m : Nat) (G : Vc e → Vc e) : Vc e := fun t => if t < n * m then G (un (t / m)) (t % m) else 0
theorem mpH_cd {G : Vc e → Vc e} (hG : ∀ u c w, sup n u → sup n w → G (lc u c w) = lc (G u) c (G w)) (hs : ∀ v, sup n v → sup m (G v)) {v : Vc e} (hv : sup n v) : mpH n m (cdH n m G) v = G v := by
  have hl : ∀ T : List (Vc e), (∀ x ∈ T, sup n x) → ∀ c, sup n (cmb T c) ∧ G (cmb T c) = cmb (T.map G) c := by
    refine snoc_ind ?_ ?_
    · intro _ c
      refine ⟨sup_z0, ?_⟩
      have h1 := hG z0 (-1) z0 sup_z0 sup_z0
      rw [lc_neg] at h1
      exact h1.trans (lc_neg _)
    · intro T x ih hs c
      have hT : ∀ y ∈ T, sup n y := fun y hy => hs y (List.mem_append_left _ hy)
      have hx := hs x (List.mem_append_right _ (List.mem_singleton.mpr rfl))
      obtain ⟨h1, h2⟩ := ih hT c
      rw [List.map_append, List.map_singleton, cmb_app, cmb_app, List.length_map]
      exact ⟨sup_lc h1 hx, by rw [hG _ _ _ h1 hx, h2]⟩
  have e1 := (hl ((List.range n).map un) (fun x hx => by
    obtain ⟨i, hi, rfl⟩ := List.mem_map.mp hx
    exact un_sup (List.mem_range.mp hi)) v).2
  rw [← un_cmb hv, List.map_map] at e1
  refine sup_ext mpH_sup (hs v hv) (fun j hj => ?_)
  rw [e1, cmb_rng]
  unfold mpH
  rw [if_pos hj]
  refine sK_congr (fun i hi => ?_)
  have hm : 0 < m := by omega
  have hlt : i * m + j < n * m := by
    have : (i + 1) * m ≤ n * m := Nat.mul_le_mul_right m hi
    rw [Nat.succ_mul] at this
    omega
  have hd : (i * m + j) / m = i := by
    rw [Nat.mul_comm, Nat.mul_add_div hm, Nat.div_eq_of_lt hj]
    rfl
  have hr : (i * m + j) % m = j := by
    rw [Nat.mul_comm, Nat.mul_add_mod, Nat.mod_eq_of_lt hj]
  unfold cdH
  rw [if_pos hlt, hd, hr]
  rfl
theorem hom_sub : Sub (n * m) (hom n m X Y) := by
  have h : hom n m X Y = perp (n * m) (spn (eqT n m X Y (2 * (n * m)))) := funext (fun h => propext (hom_perp h))
  refine ⟨⟨sup_z0, fun g i j _ _ _ => ?_⟩, fun u w c hu hw => ⟨sup_lc hu.1 hw.1, fun g i j a b d => ?_⟩, fun w hw => hw.1⟩
  · exact sK_zero (fun k _ => by unfold z0; grind)
  · rw [dot_r, hu.2 g i j a b d, hw.2 g i j a b d]
    grind
theorem hom_le (he : e ≤ 1) {n' m' : Nat} {X' Y' : Nat → Nat → Nat → Kf e} {ψ θ : Vc e → Vc e} (hψ : isoM n X n' X' ψ) (hθ : isoM m' Y' m Y θ) : dm (n' * m') (hom n' m' X' Y') ≤ dm (n * m) (hom n m X Y) := by
  have hGl : ∀ h, ∀ u c w, sup n u → sup n w → (fun v => θ (mpH n' m' h (ψ v))) (lc u c w) = lc ((fun v => θ (mpH n' m' h (ψ v))) u) c ((fun v => θ (mpH n' m' h (ψ v))) w) := fun h u c w hu hw => by
    dsimp only
    rw [hψ.1 _ _ _ hu hw, mpH_lin, hθ.1 _ _ _ mpH_sup mpH_sup]
  have hGs : ∀ h, ∀ v, sup n v → sup m ((fun v => θ (mpH n' m' h (ψ v))) v) := fun h v _ => hθ.2.1 _ mpH_sup
  refine dm_inj he hom_sub hom_sub (L := fun h => cdH n m (fun v => θ (mpH n' m' h (ψ v)))) (fun u c w => ?_) (fun h hh => ?_) (fun h hh hz => ?_)
  · funext t
    show (if t < n * m then θ (mpH n' m' (lc u c w) (ψ (un (t / m)))) (t % m) else 0) = (if t < n * m then θ (mpH n' m' u (ψ (un (t / m)))) (t % m) else 0) + c * (if t < n * m then θ (mpH n' m' w (ψ (un (t / m)))) (t % m) else 0)
    by_cases q : t < n * m
    · rw [if_pos q, if_pos q, if_pos q, mpH_lin2 u c w, hθ.1 _ _ _ mpH_sup mpH_sup]
      rfl
    · rw [if_neg q, if_neg q, if_neg q]
      grind
  · obtain ⟨h1, h2⟩ := hom_iff.mp hh
    refine hom_iff.mpr ⟨fun t ht => if_neg (by omega), fun g hg v hv => ?_⟩
    rw [mpH_cd (hGl h) (hGs h) sup_mv, mpH_cd (hGl h) (hGs h) hv]
    rw [hψ.2.2.2.2 g hg v hv, h2 g hg _ (hψ.2.1 v hv), hθ.2.2.2.2 g hg _ mpH_sup]
  · have h0 : ∀ v, sup n v → θ (mpH n' m' h (ψ v)) = z0 := fun v hv => by
      have h1 := mpH_cd (hGl h) (hGs h) hv
      rw [hz] at h1
      rw [← h1]
      funext j
      unfold mpH
      by_cases q : j < m
      · rw [if_pos q]
        exact sK_zero (fun i _ => by unfold z0; grind)
      · rw [if_neg q]
        rfl
    funext t
    by_cases q : t < n' * m'
    · have hm : 0 < m' := Nat.pos_of_ne_zero (fun z => by rw [z, Nat.mul_zero] at q; omega)
      have hi : t / m' < n' := Nat.div_lt_of_lt_mul (by rw [Nat.mul_comm]; exact q)
      obtain ⟨v, v1, v2⟩ := hψ.2.2.2.1 (un (t / m')) (un_sup hi)
      have h2 := hθ.2.2.1 _ mpH_sup (h0 v v1)
      rw [v2] at h2
      have h3 := mpH_un (h := h) hi (Nat.mod_lt t hm)
      rw [h2, Nat.mul_comm, Nat.div_add_mod] at h3
      exact h3.symm
    · exact hh.1 t (by omega)
theorem iso_inv {A B : Nat → Nat → Nat → Kf e} {ψ : Vc e → Vc e} (h : isoM n A m B ψ) : ∃ θ, isoM m B n A θ := by
  have r : Rep n A zS (sup n) m B ψ := ⟨h.1, h.2.1, fun v hv => ⟨h.2.2.1 v hv, fun q => by
    have : v = z0 := q
    rw [this, iso_z0 h]⟩, h.2.2.2.1, h.2.2.2.2⟩
  exact ⟨_, rep_iso SI_all r rep_id⟩
theorem iso_id {A : Nat → Nat → Nat → Kf e} : isoM n A n A (fun v => v) := ⟨fun _ _ _ _ _ => rfl, fun _ h => h, fun _ _ h => h, fun y hy => ⟨y, hy, rfl⟩, fun _ _ _ _ => rfl⟩
theorem wys_iso (he : e ≤ 1) {n' m' : Nat} {X' Y' : Nat → Nat → Nat → Kf e} {ψ θ : Vc e → Vc e} (hψ : isoM n X n' X' ψ) (hθ : isoM m Y m' Y' θ) : wys n m X Y = wys n' m' X' Y' := by
  obtain ⟨ψ', hψ'⟩ := iso_inv hψ
  obtain ⟨θ', hθ'⟩ := iso_inv hθ
  have h1 := hom_le he hψ hθ'
  have h2 := hom_le he hψ' hθ
  rw [wys_hom he, wys_hom he]
  omega
end
