/-! One section has one type; two chains have the same types. -/
section
variable {e n m : Nat} {A : Nat → Nat → Nat → Kf e}
theorem lc_z_eq {u w : Vc e} (h : lc u (-1) w = z0) : u = w := by
  funext i
  have := congrFun h i
  unfold lc z0 at this
  grind
theorem rep_key {U W : Vc e → Prop} (hW : SI n A W) {B : Nat → Nat → Nat → Kf e} {φ : Vc e → Vc e} (r : Rep n A U W m B φ) {m' : Nat} {B' : Nat → Nat → Nat → Kf e} {φ' : Vc e → Vc e} (r' : Rep n A U W m' B' φ') {u w : Vc e} (hu : W u) (hw : W w) (h : φ u = φ w) : φ' u = φ' w := by
  have h1 := r.1 u (-1) w hu hw
  rw [h, lc_neg] at h1
  have h2 := (r.2.2.1 _ (hW.1.2.1 _ _ _ hu hw)).mp h1
  have h3 := (r'.2.2.1 _ (hW.1.2.1 _ _ _ hu hw)).mpr h2
  rw [r'.1 _ _ _ hu hw] at h3
  exact lc_z_eq h3
noncomputable def slc (W : Vc e → Prop) (φ : Vc e → Vc e) (y : Vc e) : Vc e := @Classical.epsilon (Vc e) ⟨z0⟩ (fun v => W v ∧ φ v = y)
theorem rep_iso {U W : Vc e → Prop} (hW : SI n A W) {B : Nat → Nat → Nat → Kf e} {φ : Vc e → Vc e} (r : Rep n A U W m B φ) {m' : Nat} {B' : Nat → Nat → Nat → Kf e} {φ' : Vc e → Vc e} (r' : Rep n A U W m' B' φ') : isoM m B m' B' (fun y => φ' (slc W φ y)) := by
  have hs : ∀ y, sup m y → W (slc W φ y) ∧ φ (slc W φ y) = y := fun y hy => Classical.epsilon_spec (p := fun v => W v ∧ φ v = y) (r.2.2.2.1 y hy)
  refine ⟨fun u c w hu hw => ?_, fun w hw => r'.2.1 _ (hs w hw).1, fun w hw h => ?_, fun y hy => ?_, fun g hg w hw => ?_⟩
  · obtain ⟨u1, u2⟩ := hs u hu
    obtain ⟨w1, w2⟩ := hs w hw
    obtain ⟨x1, x2⟩ := hs _ (sup_lc (c := c) hu hw)
    dsimp only
    rw [← r'.1 _ _ _ u1 w1]
    exact rep_key hW r r' x1 (hW.1.2.1 _ _ _ u1 w1) (by rw [x2, r.1 _ _ _ u1 w1, u2, w2])
  · obtain ⟨w1, w2⟩ := hs w hw
    rw [← w2]
    exact (r.2.2.1 _ w1).mpr ((r'.2.2.1 _ w1).mp h)
  · obtain ⟨v, v1, v2⟩ := r'.2.2.2.1 y hy
    obtain ⟨x1, x2⟩ := hs _ (r.2.1 v v1)
    refine ⟨φ v, r.2.1 v v1, ?_⟩
    dsimp only
    rw [rep_key hW r r' x1 v1 x2, v2]
  · obtain ⟨w1, w2⟩ := hs w hw
    obtain ⟨x1, x2⟩ := hs (mv m (B g) w) sup_mv
    dsimp only
    rw [← r'.2.2.2.2 g hg _ w1]
    exact rep_key hW r r' x1 (hW.2 g hg _ w1) (by rw [x2, r.2.2.2.2 g hg _ w1, w2])
theorem sim_full (he : e ≤ 1) {B : Nat → Nat → Nat → Kf e} (hs : smM m B) {v : Vc e} (hv : sup m v) (hz : v ≠ z0) : (∀ w, sup m w → spn (spin m B [] v) w) ∧ (spin m B [] v).length = m := by
  have hok := spS_ok (A := B) he hs.2.1 hv
  have h1 : ∀ w, sup m w → spn (spin m B [] v) w := by
    rcases hs.2.2 _ ⟨hok.1, hok.2.1⟩ with h | h
    · exact absurd (h v hok.2.2) hz
    · exact h
  refine ⟨h1, ?_⟩
  have hG : Good m (spin m B [] v) := spin_good he Good.nil hv
  rw [← hG.2]
  have h2 := dm_mono (n := m) h1
  rw [dm_sup he] at h2
  have := dm_le (n := m) (spn (spin m B [] v))
  omega
theorem iso_dim (he : e ≤ 1) {B : Nat → Nat → Nat → Kf e} {m' : Nat} {B' : Nat → Nat → Nat → Kf e} {ψ : Vc e → Vc e} (h : isoM m B m' B' ψ) (hs : smM m B) (hs' : smM m' B') : m = m' := by
  have hu := un_sup (e := e) hs.1
  have h1 := (sim_full he hs hu (un_ne he)).2
  have h2 := (sim_full he hs' (h.2.1 _ hu) (fun z => un_ne he (h.2.2.1 _ hu z))).2
  rw [iso_spin h hu, List.length_map] at h2
  omega
theorem iso_sqT (he : e ≤ 1) {B B' : Nat → Nat → Nat → Kf e} {ψ : Vc e → Vc e} (h : isoM m B m B' ψ) (hs : smM m B) {v : Vc e} (hv : sup m v) (hz : v ≠ z0) {c : Nat} (hc : c < 2 * (m * m)) : sqT m B' (ψ v) c = sqT m B v c := by
  unfold sqT sqA
  have hm := hs.1
  have hg : c / (m * m) < 2 := Nat.div_lt_of_lt_mul (by rw [Nat.mul_comm]; exact hc)
  rw [iso_tel he h hv (sim_full he hs hv hz).1 (spin_good he Good.nil (h.2.1 v hv)) hg]
theorem iso_can (he : e ≤ 1) {B B' : Nat → Nat → Nat → Kf e} {ψ : Vc e → Vc e} (h : isoM m B m B' ψ) (hs : smM m B) {F : Nat → Int} (hF : canP m B F) : canP m B' F := by
  obtain ⟨⟨v, v1, v2, v3⟩, hF2⟩ := hF
  refine ⟨⟨ψ v, h.2.1 v v1, fun z => v2 (h.2.2.1 v v1 z), fun c hc => by rw [iso_sqT he h hs v1 v2 hc]; exact v3 c hc⟩, fun y hy hz => ?_⟩
  obtain ⟨w, w1, w2⟩ := h.2.2.2.1 y hy
  have hw : w ≠ z0 := fun z => hz (by rw [← w2, z, iso_z0 h])
  have h1 := hF2 w w1 hw
  have e1 : fdx (sqT m B' y) F (2 * (m * m)) = fdx (sqT m B w) F (2 * (m * m)) := fdx_congr (fun c hc => ⟨by rw [← w2, iso_sqT he h hs w1 hw hc], rfl⟩)
  rw [e1]
  exact h1
theorem ty_uniq (he : e ≤ 1) {U W : Vc e → Prop} (hW : SI n A W) {t t' : Nat × List Int} (h : tyS n A U W t) (h' : tyS n A U W t') : t = t' := by
  obtain ⟨m, B, φ, F, r, s, c, rfl⟩ := h
  obtain ⟨m', B', φ', F', r', s', c', rfl⟩ := h'
  have hi := rep_iso hW r r'
  have hm := iso_dim he hi s s'
  subst hm
  exact ty_eq (canP_eq (iso_can he hi s c) c')
/-- nothing lies between -/
theorem sec_min {U W : Vc e → Prop} (hW : SI n A W) {t : Nat × List Int} (h : tyS n A U W t) {X : Vc e → Prop} (hX : SI n A X) (hUX : ∀ v, U v → X v) (hXW : ∀ v, X v → W v) : (∀ v, X v → U v) ∨ ∀ v, W v → X v := by
  obtain ⟨m, B, φ, F, r, s, -, -⟩ := h
  have hi : SI m B (fun y => ∃ v, X v ∧ φ v = y) := by
    refine ⟨⟨⟨z0, hX.1.1, r.zz hW.1⟩, ?_, ?_⟩, ?_⟩
    · rintro _ _ c ⟨u, u1, rfl⟩ ⟨w, w1, rfl⟩
      exact ⟨lc u c w, hX.1.2.1 _ _ _ u1 w1, r.1 _ _ _ (hXW u u1) (hXW w w1)⟩
    · rintro _ ⟨u, u1, rfl⟩
      exact r.2.1 u (hXW u u1)
    · rintro g hg _ ⟨u, u1, rfl⟩
      exact ⟨_, hX.2 g hg u u1, r.2.2.2.2 g hg u (hXW u u1)⟩
  rcases s.2.2 _ hi with q | q
  · exact Or.inl (fun v hv => (r.2.2.1 v (hXW v hv)).mp (q _ ⟨v, hv, rfl⟩))
  · right
    intro v hv
    obtain ⟨u, u1, u2⟩ := q (φ v) (r.2.1 v hv)
    have h1 := r.1 v (-1) u hv (hXW u u1)
    rw [u2, lc_neg] at h1
    have h2 := hUX _ ((r.2.2.1 _ (hW.1.2.1 _ _ _ hv (hXW u u1))).mp h1)
    have h3 := hX.1.2.1 _ _ 1 h2 u1
    have e1 : lc (lc v (-1) u) 1 u = v := by
      funext i
      unfold lc
      grind
    rw [e1] at h3
    exact h3
def smS (S T : Vc e → Prop) : Vc e → Prop := fun x => ∃ s, S s ∧ T (lc x (-1) s)
theorem sum_SI {S T : Vc e → Prop} (hS : SI n A S) (hT : SI n A T) : SI n A (smS S T) := by
  refine ⟨⟨⟨z0, hS.1.1, by rw [lc_neg]; exact hT.1.1⟩, ?_, ?_⟩, ?_⟩
  · rintro u w c ⟨a, a1, a2⟩ ⟨b, b1, b2⟩
    refine ⟨lc a c b, hS.1.2.1 _ _ _ a1 b1, ?_⟩
    have h1 := hT.1.2.1 _ _ c a2 b2
    have e1 : lc (lc u (-1) a) c (lc w (-1) b) = lc (lc u c w) (-1) (lc a c b) := by
      funext i
      unfold lc
      grind
    rw [e1] at h1
    exact h1
  · rintro w ⟨a, a1, a2⟩
    have h1 := sup_lc (c := 1) (hS.1.2.2 a a1) (hT.1.2.2 _ a2)
    have e1 : lc a 1 (lc w (-1) a) = w := by
      funext i
      unfold lc
      grind
    rw [e1] at h1
    exact h1
  · rintro g hg w ⟨a, a1, a2⟩
    refine ⟨_, hS.2 g hg a a1, ?_⟩
    have h1 := hT.2 g hg _ a2
    rw [mv_lc] at h1
    exact h1
theorem sum_l {S T : Vc e → Prop} (hT : Sub n T) {v : Vc e} (h : S v) : smS S T v := ⟨v, h, by rw [lc_neg]; exact hT.1⟩
theorem sum_r {S T : Vc e → Prop} (hS : Sub n S) {v : Vc e} (h : T v) : smS S T v := ⟨z0, hS.1, by rw [lc_z0]; exact h⟩
/-- perspective: what stands over U in W2 stands over W1 in the sum -/
theorem persp {U W1 W2 : Vc e → Prop} (h1 : SI n A W1) (h2 : SI n A W2) (hU1 : ∀ v, U v → W1 v) (hI : ∀ v, W1 v → W2 v → U v) {t : Nat × List Int} (h : tyS n A U W2 t) : tyS n A W1 (smS W1 W2) t := by
  obtain ⟨m, B, φ, F, r, s, c, rfl⟩ := h
  have hsel : ∀ x, smS W1 W2 x → ∃ w, W2 w ∧ W1 (lc x (-1) w) := by
    rintro x ⟨a, a1, a2⟩
    refine ⟨_, a2, ?_⟩
    have e1 : lc x (-1) (lc x (-1) a) = a := by
      funext i
      unfold lc
      grind
    rw [e1]
    exact a1
  have hS : ∀ x, smS W1 W2 x → W2 (@Classical.epsilon (Vc e) ⟨z0⟩ (fun w => W2 w ∧ W1 (lc x (-1) w))) ∧ W1 (lc x (-1) (@Classical.epsilon (Vc e) ⟨z0⟩ (fun w => W2 w ∧ W1 (lc x (-1) w)))) := fun x hx => Classical.epsilon_spec (p := fun w => W2 w ∧ W1 (lc x (-1) w)) (hsel x hx)
  have key : ∀ x w w', W2 w → W1 (lc x (-1) w) → W2 w' → W1 (lc x (-1) w') → φ w = φ w' := fun x w w' a1 a2 b1 b2 => by
    have k1 := h1.1.2.1 _ _ (-1) b2 a2
    have e1 : lc (lc x (-1) w') (-1) (lc x (-1) w) = lc w (-1) w' := by
      funext i
      unfold lc
      grind
    rw [e1] at k1
    have k2 := (r.2.2.1 _ (h2.1.2.1 _ _ (-1) a1 b1)).mpr (hI _ k1 (h2.1.2.1 _ _ (-1) a1 b1))
    rw [r.1 _ _ _ a1 b1] at k2
    exact lc_z_eq k2
  refine ⟨m, B, fun x => φ (@Classical.epsilon (Vc e) ⟨z0⟩ (fun w => W2 w ∧ W1 (lc x (-1) w))), F, ⟨fun u c w hu hw => ?_, fun v hv => r.2.1 _ (hS v hv).1, fun v hv => ?_, fun y hy => ?_, fun g hg v hv => ?_⟩, s, c, rfl⟩
  · obtain ⟨u1, u2⟩ := hS u hu
    obtain ⟨w1, w2⟩ := hS w hw
    obtain ⟨x1, x2⟩ := hS _ ((sum_SI h1 h2).1.2.1 _ _ c hu hw)
    dsimp only
    rw [← r.1 _ _ _ u1 w1]
    refine key _ _ _ x1 x2 (h2.1.2.1 _ _ _ u1 w1) ?_
    have k1 := h1.1.2.1 _ _ c u2 w2
    rw [show ∀ a b : Vc e, lc (lc u (-1) a) c (lc w (-1) b) = lc (lc u c w) (-1) (lc a c b) from fun a b => by
      funext i
      unfold lc
      grind] at k1
    exact k1
  · obtain ⟨v1, v2⟩ := hS v hv
    dsimp only
    rw [r.2.2.1 _ v1]
    constructor
    · intro q
      have k1 := h1.1.2.1 _ _ 1 v2 (hU1 _ q)
      rw [show ∀ a : Vc e, lc (lc v (-1) a) 1 a = v from fun a => by
        funext i
        unfold lc
        grind] at k1
      exact k1
    · intro q
      have k1 := key v _ z0 v1 v2 h2.1.1 (by rw [lc_z0]; exact q)
      rw [r.zz h2.1] at k1
      exact (r.2.2.1 _ v1).mp k1
  · obtain ⟨w, w1, w2⟩ := r.2.2.2.1 y hy
    obtain ⟨x1, x2⟩ := hS w (sum_r h1.1 w1)
    refine ⟨w, sum_r h1.1 w1, ?_⟩
    dsimp only
    rw [key w _ w x1 x2 w1 (by rw [lc_neg]; exact h1.1.1), w2]
  · obtain ⟨v1, v2⟩ := hS v hv
    obtain ⟨x1, x2⟩ := hS _ ((sum_SI h1 h2).2 g hg v hv)
    dsimp only
    rw [← r.2.2.2.2 g hg _ v1]
    refine key _ _ _ x1 x2 (h2.2 g hg _ v1) ?_
    have k1 := h1.2 g hg _ v2
    rw [mv_lc] at k1
    exact k1
theorem sum_comm {S T : Vc e → Prop} : smS S T = smS T S := by
  have h : ∀ {S T : Vc e → Prop} (x : Vc e), smS S T x → smS T S x := by
    rintro S T x ⟨a, a1, a2⟩
    refine ⟨_, a2, ?_⟩
    have e1 : lc x (-1) (lc x (-1) a) = a := by
      funext i
      unfold lc
      grind
    rw [e1]
    exact a1
  funext x
  exact propext ⟨h x, h x⟩
theorem JH (he : e ≤ 1) (hn : n ≤ 6) : ∀ (k : Nat) {U : Vc e → Prop}, SI n A U → n ≤ dm n U + k → ∀ {L L' : List (Nat × List Int)}, MC n A L U (sup n) → MC n A L' U (sup n) → L.Perm L' := by
  have hnil : ∀ {U : Vc e → Prop}, U = sup n → ∀ {L : List (Nat × List Int)}, MC n A L U (sup n) → L = [] := by
    intro U hU L h
    cases L with
    | nil => rfl
    | cons t L =>
      obtain ⟨W, w1, w2, w3, w4⟩ := h
      obtain ⟨w, x1, x2⟩ := sec_ne he w3
      rw [hU] at x2
      exact absurd (w1.1.2.2 w x1) x2
  intro k
  induction k with
  | zero =>
    intro U hU hd L L' h h'
    have hU2 : U = sup n := by
      funext v
      exact propext ⟨hU.1.2.2 v, dm_all he hU.1 (SI_all (A := A)).1 (fun v hv => hU.1.2.2 v hv) (by rw [dm_sup he]; omega) v⟩
    rw [hnil hU2 h, hnil hU2 h']
  | succ k ih =>
    intro U hU hd L L' h h'
    cases L with
    | nil => rw [hnil h h']
    | cons t L =>
      cases L' with
      | nil => rw [hnil h' h]
      | cons t' L' =>
        obtain ⟨W, w1, w2, w3, w4⟩ := h
        obtain ⟨W', x1, x2, x3, x4⟩ := h'
        have d1 := sec_dm he hU.1 w1.1 w2 w3
        have d2 := sec_dm he hU.1 x1.1 x2 x3
        by_cases q : W = W'
        · subst q
          rw [ty_uniq he w1 w3 x3]
          exact (ih w1 (by omega) w4 x4).cons _
        · have hI : ∀ v, W v → W' v → U v := by
            have hD : SI n A (fun v => W v ∧ W' v) := ⟨⟨⟨w1.1.1, x1.1.1⟩, fun u w c hu hw => ⟨w1.1.2.1 _ _ _ hu.1 hw.1, x1.1.2.1 _ _ _ hu.2 hw.2⟩, fun w hw => w1.1.2.2 w hw.1⟩, fun g hg w hw => ⟨w1.2 g hg w hw.1, x1.2 g hg w hw.2⟩⟩
            rcases sec_min w1 w3 hD (fun v hv => ⟨w2 v hv, x2 v hv⟩) (fun v hv => hv.1) with z | z
            · exact fun v a b => z v ⟨a, b⟩
            · rcases sec_min x1 x3 hD (fun v hv => ⟨w2 v hv, x2 v hv⟩) (fun v hv => hv.2) with y | y
              · exact fun v a b => y v ⟨a, b⟩
              · exact absurd (funext (fun v => propext ⟨fun a => (z v a).2, fun a => (y v a).1⟩)) q
          have p1 := persp w1 x1 w2 hI x3
          have p2 := persp x1 w1 x2 (fun v a b => hI v b a) w3
          rw [sum_comm] at p2
          have hX := sum_SI w1 x1
          obtain ⟨K, hK⟩ := MC_ex he hn n hX (by omega)
          have c1 : MC n A (t' :: K) W (sup n) := ⟨_, hX, fun v hv => sum_l x1.1 hv, p1, hK⟩
          have c2 : MC n A (t :: K) W' (sup n) := ⟨_, hX, fun v hv => sum_r w1.1 hv, p2, hK⟩
          have e1 := ih w1 (by omega) w4 c1
          have e2 := ih x1 (by omega) x4 c2
          exact (e1.cons t).trans ((List.Perm.swap t' t K).trans (e2.symm.cons t'))
theorem MLs_uniq (he : e ≤ 1) (hn : n ≤ 6) {L L' : List (Nat × List Int)} (h : MLs n A L) (h' : MLs n A L') : L.Perm L' := JH he hn n SI_z (by omega) h h'
end
