/-! Chains of submodules. -/
section
variable {e n m : Nat} {A : Nat → Nat → Nat → Kf e}
theorem rd_lc (he : e ≤ 1) {S : Vc e → Prop} (hS : Sub n S) (u : Vc e) (c : Kf e) (w : Vc e) : rd n S (lc u c w) = lc (rd n S u) c (rd n S w) := by
  have hL : ∀ i, Lp S i → i < n := fun i hi => Lp_lt hS hi
  refine rd_eq he hS hL ?_ (fun j hj => ?_)
  · have h1 := hS.2.1 _ _ c (rd_in (n := n) he hS u) (rd_in (n := n) he hS w)
    have e1 : lc (lc (rd n S u) (-1) u) c (lc (rd n S w) (-1) w) = lc (lc (rd n S u) c (rd n S w)) (-1) (lc u c w) := by
      funext j
      unfold lc
      grind
    rw [e1] at h1
    exact h1
  · show rd n S u j + c * rd n S w j = 0
    rw [rd_at he hS hL u hj, rd_at he hS hL w hj]
    grind
noncomputable def phR (n : Nat) (S : Vc e → Prop) (w : Vc e) : Vc e := fun i => if i < n - dm n S then rd n S w (pl (nL S) i) else 0
theorem rst_rep (he : e ≤ 1) {S : Vc e → Prop} (hS : SI n A S) : Rep n A S (sup n) (n - dm n S) (rst n A S) (phR n S) := by
  have hL : ∀ i, Lp S i → i < n := fun i hi => Lp_lt hS.1 hi
  have hcn : cnt (nL S) n = n - dm n S := by
    have h1 := cnt_not (P := Lp S) (n := n)
    show cnt (fun i => ¬ Lp S i) n = n - cnt (Lp S) n
    omega
  have hrs : ∀ v, sup n v → sup n (rd n S v) := fun v hv => rds_sup he hS.1 hv n
  have hpl : ∀ i, i < n - dm n S → nL S (pl (nL S) i) ∧ cnt (nL S) (pl (nL S) i) = i := fun i hi => pl_spec (P := nL S) (n := n) (by rw [hcn]; exact hi)
  have hpn : ∀ i, i < n - dm n S → pl (nL S) i < n := fun i hi => by
    obtain ⟨j, j1, j2, j3⟩ := cnt_at (P := nL S) (n := n) (d := i) (by rw [hcn]; exact hi)
    have : pl (nL S) i = j := by rw [← j3, pl_cnt j2]
    omega
  have hcl : ∀ j, j < n → nL S j → cnt (nL S) j < n - dm n S := fun j hj h => by
    rw [← hcn]
    exact cnt_lt hj h
  have hexp : ∀ v, sup n v → rd n S v = cmb ((List.range (n - dm n S)).map (fun i => un (pl (nL S) i))) (phR n S v) := fun v hv => by
    funext k
    rw [cmb_rng]
    by_cases q : k < n ∧ nL S k
    · symm
      refine sK_one' (cnt (nL S) k) (hcl k q.1 q.2) (fun i hi hik => ?_) ?_
      · have hne : k ≠ pl (nL S) i := fun z => hik (by rw [z, (hpl i hi).2])
        unfold un
        rw [if_neg hne]
        grind
      · unfold un phR
        rw [pl_cnt q.2, if_pos rfl, if_pos (hcl k q.1 q.2)]
        grind
    · have h0 : rd n S v k = 0 := by
        by_cases q1 : k < n
        · exact rd_at he hS.1 hL v (Classical.byContradiction (fun z => q ⟨q1, z⟩))
        · exact hrs v hv k (by omega)
      rw [h0]
      symm
      refine sK_zero (fun i hi => ?_)
      have hne : k ≠ pl (nL S) i := fun z => q ⟨by rw [z]; exact hpn i hi, by rw [z]; exact (hpl i hi).1⟩
      unfold un
      rw [if_neg hne]
      grind
  refine ⟨fun u c w _ _ => ?_, fun v _ i hi => if_neg (by omega), fun v hv => ⟨fun h => ?_, fun h => ?_⟩, fun y hy => ?_, fun g hg v hv => ?_⟩
  · funext i
    unfold phR
    rw [rd_lc he hS.1]
    unfold lc
    dsimp only
    by_cases q : i < n - dm n S
    · rw [if_pos q, if_pos q, if_pos q]
    · rw [if_neg q, if_neg q, if_neg q]
      grind
  · rw [← rd_z0 he hS.1 hL, hexp v hv, h]
    funext k
    rw [cmb_rng]
    exact sK_zero (fun i _ => by unfold z0; grind)
  · funext i
    unfold phR
    rw [(rd_z0 he hS.1 hL).mpr h]
    unfold z0
    split <;> rfl
  · have hr : rd n S (fun j => if j < n then ifp (nL S j) (y (cnt (nL S) j)) 0 else 0) = fun j => if j < n then ifp (nL S j) (y (cnt (nL S) j)) 0 else 0 := by
      refine rd_eq he hS.1 hL (by rw [lc_neg]; exact hS.1.1) (fun j hj => ?_)
      rw [if_pos (hL j hj), ifp_f (fun z => z hj)]
    refine ⟨fun j => if j < n then ifp (nL S j) (y (cnt (nL S) j)) 0 else 0, fun j hj => if_neg (by omega), ?_⟩
    funext i
    unfold phR
    rw [hr]
    dsimp only
    by_cases q : i < n - dm n S
    · rw [if_pos q, if_pos (hpn i q), ifp_t (hpl i q).1, (hpl i q).2]
    · rw [if_neg q, hy i (by omega)]
  · have hd : rd n S (mv n (A g) v) = rd n S (mv n (A g) (rd n S v)) := by
      refine rd_eq he hS.1 hL ?_ (fun j hj => rd_at he hS.1 hL _ hj)
      have h1 := hS.2 g hg _ (rd_in (n := n) he hS.1 v)
      rw [mv_lc] at h1
      have h2 := hS.1.2.1 _ _ 1 (rd_in (n := n) he hS.1 (mv n (A g) (rd n S v))) h1
      have e1 : lc (lc (rd n S (mv n (A g) (rd n S v))) (-1) (mv n (A g) (rd n S v))) 1 (lc (mv n (A g) (rd n S v)) (-1) (mv n (A g) v)) = lc (rd n S (mv n (A g) (rd n S v))) (-1) (mv n (A g) v) := by
        funext j
        unfold lc
        grind
      rw [e1] at h2
      exact h2
    have hx := congrArg (fun w => rd n S (mv n (A g) w)) (hexp v hv)
    rw [cmb_map (L := mv n (A g)) (fun u c w => mv_lc u w c), cmb_map (L := rd n S) (fun u c w => rd_lc he hS.1 u c w), List.map_map, List.map_map] at hx
    funext j
    show phR n S (mv n (A g) v) j = mv (n - dm n S) (rst n A S g) (phR n S v) j
    unfold mv
    by_cases q : j < n - dm n S
    · rw [if_pos q]
      show (if j < n - dm n S then rd n S (mv n (A g) v) (pl (nL S) j) else 0) = _
      rw [if_pos q, hd, hx, cmb_rng]
      refine sK_congr (fun i hi => ?_)
      unfold rst
      rw [wo_rd he hS.1]
      rfl
    · rw [if_neg q]
      exact if_neg q
/-- types -/
def ty (m : Nat) (F : Nat → Int) : Nat × List Int := (m, (List.range (2 * (m * m))).map F)
theorem ty_eq {F G : Nat → Int} (h : ∀ c, c < 2 * (m * m) → F c = G c) : ty m F = ty m G := by
  unfold ty
  congr 1
  exact List.map_congr_left (fun c hc => h c (List.mem_range.mp hc))
def smM (m : Nat) (B : Nat → Nat → Nat → Kf e) : Prop := 1 ≤ m ∧ m ≤ 6 ∧ ∀ X, SI m B X → (∀ v, X v → v = z0) ∨ ∀ v, sup m v → X v
def tyS (n : Nat) (A : Nat → Nat → Nat → Kf e) (U V : Vc e → Prop) (t : Nat × List Int) : Prop := ∃ m B φ F, Rep n A U V m B φ ∧ smM m B ∧ canP m B F ∧ t = ty m F
def MC (n : Nat) (A : Nat → Nat → Nat → Kf e) : List (Nat × List Int) → (Vc e → Prop) → (Vc e → Prop) → Prop
  | [], U, V => U = V
  | t :: L, U, V => ∃ W, SI n A W ∧ (∀ v, U v → W v) ∧ tyS n A U W t ∧ MC n A L W V
theorem MC_app {L2 : List (Nat × List Int)} {W V : Vc e → Prop} (h2 : MC n A L2 W V) : ∀ {L1 : List (Nat × List Int)} {U : Vc e → Prop}, MC n A L1 U W → MC n A (L1 ++ L2) U V
  | [], U, h1 => by
    have : U = W := h1
    rw [this]
    exact h2
  | t :: L1, U, ⟨X, x1, x2, x3, x4⟩ => ⟨X, x1, x2, x3, MC_app h2 x4⟩
theorem MC_lift {U V : Vc e → Prop} {B : Nat → Nat → Nat → Kf e} {φ : Vc e → Vc e} (h : Rep n A U V m B φ) (hV : SI n A V) : ∀ {L : List (Nat × List Int)} {X Y : Vc e → Prop}, MC m B L X Y → MC n A L (pre φ V X) (pre φ V Y)
  | [], X, Y, h1 => by
    have : X = Y := h1
    rw [this]
    exact rfl
  | t :: L, X, Y, ⟨W, w1, w2, ⟨m', B', φ', F, r1, r2, r3, r4⟩, w4⟩ => ⟨pre φ V W, pre_SI h hV w1, fun v hv => ⟨hv.1, w2 _ hv.2⟩, ⟨m', B', _, F, h.comp w1.1 r1, r2, r3, r4⟩, MC_lift h hV w4⟩
theorem pre_z {U V : Vc e → Prop} {B : Nat → Nat → Nat → Kf e} {φ : Vc e → Vc e} (h : Rep n A U V m B φ) (hUV : ∀ v, U v → V v) : pre φ V zS = U := by
  funext v
  refine propext ⟨fun q => (h.2.2.1 v q.1).mp q.2, fun q => ⟨hUV v q, (h.2.2.1 v (hUV v q)).mpr q⟩⟩
theorem pre_all {U V : Vc e → Prop} {B : Nat → Nat → Nat → Kf e} {φ : Vc e → Vc e} (h : Rep n A U V m B φ) : pre φ V (sup m) = V := by
  funext v
  exact propext ⟨fun q => q.1, fun q => ⟨q, h.2.1 v q⟩⟩
def MLs (n : Nat) (A : Nat → Nat → Nat → Kf e) (L : List (Nat × List Int)) : Prop := MC n A L zS (sup n)
theorem MLs_cut (he : e ≤ 1) {S : Vc e → Prop} (hS : SI n A S) {L1 L2 : List (Nat × List Int)} (h1 : MLs (dm n S) (prt n A S) L1) (h2 : MLs (n - dm n S) (rst n A S) L2) : MLs n A (L1 ++ L2) := by
  have r1 := prt_rep he hS
  have r2 := rst_rep he hS
  have k1 := MC_lift r1 hS h1
  have k2 := MC_lift r2 SI_all h2
  have hz : ∀ v, (zS : Vc e → Prop) v → S v := fun v hv => by
    have : v = z0 := hv
    rw [this]
    exact hS.1.1
  rw [pre_z r1 hz, pre_all r1] at k1
  rw [pre_z r2 (fun v hv => hS.1.2.2 v hv), pre_all r2] at k2
  exact MC_app k2 k1
theorem rep_id : Rep n A zS (sup n) n A (fun v => v) := ⟨fun _ _ _ _ _ => rfl, fun _ h => h, fun _ _ => Iff.rfl, fun y hy => ⟨y, hy, rfl⟩, fun _ _ _ _ => rfl⟩
theorem MLs_sim (hs : smM n A) {F : Nat → Int} (hF : canP n A F) : MLs n A [ty n F] := ⟨sup n, SI_all, fun v hv => by
  have : v = z0 := hv
  rw [this]
  exact sup_z0, ⟨n, A, _, F, rep_id, hs, hF, rfl⟩, rfl⟩
theorem MLs_zero : MLs 0 A [] := by
  show zS = sup 0
  funext v
  refine propext ⟨fun h i _ => ?_, fun h => funext (fun i => h i (Nat.zero_le i))⟩
  have : v = z0 := h
  rw [this]
  rfl
end
