/-! Sections of a module as modules. -/
section
variable {e n m : Nat}
theorem cmb_map {L : Vc e → Vc e} (hL : linM L) (T : List (Vc e)) : ∀ c, L (cmb T c) = cmb (T.map L) c := by
  refine snoc_ind (P := fun T => ∀ c, L (cmb T c) = cmb (T.map L) c) ?_ ?_ T
  · intro c
    exact lin_z0 hL
  · intro T x ih c
    rw [List.map_append, List.map_singleton, cmb_app, cmb_app, List.length_map, hL, ih]
theorem cmb_in {S : Vc e → Prop} (hS : Sub n S) (T : List (Vc e)) : (∀ x ∈ T, S x) → ∀ c, S (cmb T c) := by
  refine snoc_ind (P := fun T => (∀ x ∈ T, S x) → ∀ c, S (cmb T c)) ?_ ?_ T
  · intro _ c
    exact hS.1
  · intro T x ih hs c
    rw [cmb_app]
    exact hS.2.1 _ _ _ (ih (fun y hy => hs y (List.mem_append_left _ hy)) c) (hs x (List.mem_append_right _ (List.mem_singleton.mpr rfl)))
theorem rng_getD {f : Nat → Vc e} {d i : Nat} (hi : i < d) : ((List.range d).map f).getD i z0 = f i := by
  rw [List.getD_eq_getElem?_getD, List.getElem?_map, List.getElem?_range hi]
  rfl
theorem cmb_rng {f : Nat → Vc e} {d : Nat} {c : Vc e} {k : Nat} : cmb ((List.range d).map f) c k = sK (fun i => c i * f i k) d := by
  unfold cmb
  rw [List.length_map, List.length_range]
  exact sK_congr (fun i hi => by rw [rng_getD hi])
theorem sK_one' {f : Nat → Kf e} {x : Kf e} {d : Nat} (j : Nat) (hj : j < d) (h0 : ∀ k, k < d → k ≠ j → f k = 0) (hx : f j = x) : sK f d = x := by
  have h1 : sK f d = sK (fun k => if k < d then f k else 0) d := sK_congr (fun k hk => (if_pos hk).symm)
  rw [h1]
  refine sK_one (i := j) (fun k hk => ?_) (by rw [if_pos hj]; exact hx) hj
  by_cases q : k < d
  · rw [if_pos q]
    exact h0 k q hk
  · rw [if_neg q]
def SI (n : Nat) (A : Nat → Nat → Nat → Kf e) (U : Vc e → Prop) : Prop := Sub n U ∧ Inv n A U
def zS : Vc e → Prop := fun w => w = z0
variable {A : Nat → Nat → Nat → Kf e}
theorem SI_z : SI n A (zS : Vc e → Prop) := ⟨Sub.zero, fun g _ w hw => by
  have : w = z0 := hw
  rw [this]
  exact mv_z0⟩
theorem SI_all : SI n A (sup n) := ⟨⟨sup_z0, fun u w c hu hw => sup_lc hu hw, fun w hw => hw⟩, fun g _ w _ => sup_mv⟩
def Rep (n : Nat) (A : Nat → Nat → Nat → Kf e) (U V : Vc e → Prop) (m : Nat) (B : Nat → Nat → Nat → Kf e) (φ : Vc e → Vc e) : Prop := (∀ u c w, V u → V w → φ (lc u c w) = lc (φ u) c (φ w)) ∧ (∀ v, V v → sup m (φ v)) ∧ (∀ v, V v → (φ v = z0 ↔ U v)) ∧ (∀ y, sup m y → ∃ v, V v ∧ φ v = y) ∧ ∀ g, g < 2 → ∀ v, V v → φ (mv n (A g) v) = mv m (B g) (φ v)
def pre (φ : Vc e → Vc e) (V X : Vc e → Prop) : Vc e → Prop := fun v => V v ∧ X (φ v)
theorem Rep.zz {U V : Vc e → Prop} {B : Nat → Nat → Nat → Kf e} {φ : Vc e → Vc e} (h : Rep n A U V m B φ) (hV : Sub n V) : φ z0 = z0 := by
  have h1 := h.1 z0 (-1) z0 hV.1 hV.1
  rw [lc_neg] at h1
  exact h1.trans (lc_neg _)
theorem pre_SI {U V : Vc e → Prop} {B : Nat → Nat → Nat → Kf e} {φ : Vc e → Vc e} (h : Rep n A U V m B φ) (hV : SI n A V) {X : Vc e → Prop} (hX : SI m B X) : SI n A (pre φ V X) := by
  refine ⟨⟨⟨hV.1.1, by rw [h.zz hV.1]; exact hX.1.1⟩, fun u w c hu hw => ⟨hV.1.2.1 _ _ _ hu.1 hw.1, ?_⟩, fun w hw => hV.1.2.2 w hw.1⟩, fun g hg w hw => ⟨hV.2 g hg w hw.1, ?_⟩⟩
  · rw [h.1 _ _ _ hu.1 hw.1]
    exact hX.1.2.1 _ _ _ hu.2 hw.2
  · rw [h.2.2.2.2 g hg w hw.1]
    exact hX.2 g hg _ hw.2
theorem Rep.comp {U V : Vc e → Prop} {B : Nat → Nat → Nat → Kf e} {φ : Vc e → Vc e} (h : Rep n A U V m B φ) {X Y : Vc e → Prop} (hY : Sub m Y) {m' : Nat} {B' : Nat → Nat → Nat → Kf e} {φ' : Vc e → Vc e} (h' : Rep m B X Y m' B' φ') : Rep n A (pre φ V X) (pre φ V Y) m' B' (fun v => φ' (φ v)) := by
  refine ⟨fun u c w hu hw => ?_, fun v hv => h'.2.1 _ hv.2, fun v hv => ?_, fun y hy => ?_, fun g hg v hv => ?_⟩
  · dsimp only
    rw [h.1 _ _ _ hu.1 hw.1]
    exact h'.1 _ _ _ hu.2 hw.2
  · dsimp only
    rw [h'.2.2.1 _ hv.2]
    exact ⟨fun q => ⟨hv.1, q⟩, fun q => q.2⟩
  · obtain ⟨w, w1, w2⟩ := h'.2.2.2.1 y hy
    obtain ⟨v, v1, v2⟩ := h.2.2.2.1 w (hY.2.2 w w1)
    exact ⟨v, ⟨v1, by rw [v2]; exact w1⟩, by dsimp only; rw [v2]; exact w2⟩
  · dsimp only
    rw [h.2.2.2.2 g hg v hv.1]
    exact h'.2.2.2.2 g hg _ hv.2
/-- a subspace as a module -/
noncomputable def phS (n : Nat) (S : Vc e → Prop) (w : Vc e) : Vc e := fun i => if i < dm n S then w (pl (Lp S) i) else 0
theorem prt_rep (he : e ≤ 1) {S : Vc e → Prop} (hS : SI n A S) : Rep n A zS S (dm n S) (prt n A S) (phS n S) := by
  have hpl : ∀ i, i < dm n S → Lp S (pl (Lp S) i) := fun i hi => (pl_spec (P := Lp S) (n := n) hi).1
  have hcr : ∀ i, i < dm n S → crw S (pl (Lp S) i) (crow S (pl (Lp S) i)) := fun i hi => crow_spec he hS.1 (hpl i hi)
  have hin : ∀ c, S (cmb ((List.range (dm n S)).map (fun i => crow S (pl (Lp S) i))) c) := cmb_in hS.1 _ (fun x hx => by
    obtain ⟨i, hi, rfl⟩ := List.mem_map.mp hx
    exact (hcr i (List.mem_range.mp hi)).1)
  have hat : ∀ c j, j < dm n S → cmb ((List.range (dm n S)).map (fun i => crow S (pl (Lp S) i))) c (pl (Lp S) j) = c j := fun c j hj => by
    rw [cmb_rng]
    refine sK_one' j hj ?_ ?_
    · intro k hk hkj
      have hne : pl (Lp S) j ≠ pl (Lp S) k := fun q => hkj (by
        have h1 := (pl_spec (P := Lp S) (n := n) hj).2
        have h2 := (pl_spec (P := Lp S) (n := n) hk).2
        rw [q, h2] at h1
        exact h1)
      rw [(hcr k hk).2.2.2 _ hne (hpl j hj)]
      grind
    · rw [(hcr j hj).2.2.1]
      grind
  have hexp : ∀ w, S w → w = cmb ((List.range (dm n S)).map (fun i => crow S (pl (Lp S) i))) (phS n S w) := fun w hw => by
    refine Lp_eq hS.1 hw (hin _) (fun j hj => ?_)
    have hc : cnt (Lp S) j < dm n S := cnt_lt (Lp_lt hS.1 hj) hj
    have h1 := hat (phS n S w) (cnt (Lp S) j) hc
    rw [pl_cnt hj] at h1
    rw [h1]
    unfold phS
    rw [if_pos hc, pl_cnt hj]
  refine ⟨fun u c w _ _ => ?_, fun v _ i hi => if_neg (by omega), fun v hv => ⟨fun h => ?_, fun h => ?_⟩, fun y hy => ⟨_, hin y, ?_⟩, fun g hg v hv => ?_⟩
  · funext i
    unfold phS lc
    dsimp only
    by_cases q : i < dm n S
    · rw [if_pos q, if_pos q, if_pos q]
    · rw [if_neg q, if_neg q, if_neg q]
      grind
  · have h1 := hexp v hv
    rw [h] at h1
    rw [h1]
    show cmb _ z0 = z0
    funext k
    rw [cmb_rng]
    exact sK_zero (fun i _ => by unfold z0; grind)
  · have : v = z0 := h
    rw [this]
    funext i
    unfold phS z0
    split <;> rfl
  · funext j
    unfold phS
    by_cases q : j < dm n S
    · rw [if_pos q, hat y j q]
    · rw [if_neg q, hy j (by omega)]
  · funext j
    unfold phS
    by_cases q : j < dm n S
    · rw [if_pos q]
      have h1 := congrFun (congrArg (mv n (A g)) (hexp v hv)) (pl (Lp S) j)
      rw [h1, cmb_map (L := mv n (A g)) (fun u c w => mv_lc u w c)]
      unfold cmb
      rw [List.length_map, List.length_map, List.length_range]
      unfold mv
      rw [if_pos q]
      refine sK_congr (fun i hi => ?_)
      rw [List.map_map, rng_getD hi]
      unfold phS prt mv
      rfl
    · rw [if_neg q]
      unfold mv
      rw [if_neg q]
end
