/-! The type of a simple section; every module has a chain. -/
section
variable {e n m : Nat} {A : Nat → Nat → Nat → Kf e}
theorem un_ne (he : e ≤ 1) {i : Nat} : (un i : Vc e) ≠ z0 := fun h => by
  have h1 := congrFun h i
  unfold un z0 at h1
  rw [if_pos rfl] at h1
  exact absurd h1 (by
    have : e = 0 ∨ e = 1 := by omega
    rcases this with rfl | rfl <;> decide)
theorem dm_sup (he : e ≤ 1) : dm n (sup n : Vc e → Prop) = n := by
  have h1 := cnt_not (P := Lp (sup n : Vc e → Prop)) (n := n)
  have h2 : cnt (fun i => ¬ Lp (sup n : Vc e → Prop) i) n = 0 := cnt_zero (fun i hi h => h ⟨un i, un_sup hi, by
    have := un_ne (e := e) he (i := i)
    refine ⟨?_, fun j hj => if_neg (by omega)⟩
    unfold un
    rw [if_pos rfl]
    have : e = 0 ∨ e = 1 := by omega
    rcases this with rfl | rfl <;> decide⟩)
  show cnt (Lp (sup n : Vc e → Prop)) n = n
  omega
theorem fdx_trans {a b c : Nat → Int} : ∀ {N : Nat}, 0 ≤ fdx a b N → 0 ≤ fdx b c N → 0 ≤ fdx a c N ∧ (fdx a c N = 0 → fdx a b N = 0 ∧ fdx b c N = 0)
  | 0, _, _ => ⟨Int.le_refl 0, fun _ => ⟨rfl, rfl⟩⟩
  | N + 1, h1, h2 => by
    have d1 : fdx a b (N + 1) = if fdx a b N ≠ 0 then fdx a b N else a N - b N := rfl
    have d2 : fdx b c (N + 1) = if fdx b c N ≠ 0 then fdx b c N else b N - c N := rfl
    have d3 : fdx a c (N + 1) = if fdx a c N ≠ 0 then fdx a c N else a N - c N := rfl
    have g1 : 0 ≤ fdx a b N := by
      by_cases q : fdx a b N = 0
      · omega
      · rw [if_pos q] at d1
        omega
    have g2 : 0 ≤ fdx b c N := by
      by_cases q : fdx b c N = 0
      · omega
      · rw [if_pos q] at d2
        omega
    have ih := fdx_trans g1 g2
    by_cases q : fdx a c N = 0
    · obtain ⟨k1, k2⟩ := ih.2 q
      rw [if_neg (fun z => z k1)] at d1
      rw [if_neg (fun z => z k2)] at d2
      rw [if_neg (fun z => z q)] at d3
      constructor <;> omega
    · rw [if_pos q] at d3
      have := ih.1
      constructor <;> omega
theorem fin_min {N : Nat} (G : Int → Nat → Int) : ∀ K : Nat, ∃ v0 : Int, 1 ≤ v0 ∧ v0 ≤ (K : Int) + 1 ∧ ∀ v : Int, 1 ≤ v → v ≤ (K : Int) + 1 → 0 ≤ fdx (G v) (G v0) N
  | 0 => ⟨1, by omega, by omega, fun v h1 h2 => by
    have : v = 1 := by omega
    rw [this, fdx_z.mpr (fun _ _ => rfl)]
    exact Int.le_refl 0⟩
  | K + 1 => by
    obtain ⟨v0, a1, a2, a3⟩ := fin_min (N := N) G K
    by_cases q : 0 ≤ fdx (G ((K : Int) + 2)) (G v0) N
    · refine ⟨v0, a1, by omega, fun v h1 h2 => ?_⟩
      by_cases z : v = (K : Int) + 2
      · rw [z]
        exact q
      · exact a3 v h1 (by omega)
    · refine ⟨(K : Int) + 2, by omega, by omega, fun v h1 h2 => ?_⟩
      by_cases z : v = (K : Int) + 2
      · rw [z, fdx_z.mpr (fun _ _ => rfl)]
        exact Int.le_refl 0
      · have := fdx_neg (f := G ((K : Int) + 2)) (g := G v0) (N := N)
        exact (fdx_trans (a3 v h1 (by omega)) (by omega)).1
theorem canP_ex (he : e ≤ 1) (h1 : 1 ≤ n) : ∃ F, canP n A F := by
  have hp : 2 ≤ pI e ^ n := by
    have h := num_pos he (un_sup (e := e) h1) (un_ne he)
    have h' := num_un (e := e) (n := n) (i := 0) h1
    have h2 : pI e = e + 2 := by rfl
    obtain ⟨k, rfl⟩ : ∃ k, n = k + 1 := ⟨n - 1, by omega⟩
    have h3 : 0 < pI e ^ k := Int.pow_pos (by omega)
    rw [Int.pow_succ, h2]
    rw [h2] at h3
    have : ((e : Int) + 2) ^ k * 2 ≤ ((e : Int) + 2) ^ k * ((e : Int) + 2) := Int.mul_le_mul_of_nonneg_left (by omega) (by omega)
    omega
  obtain ⟨v0, a1, a2, a3⟩ := fin_min (N := 2 * (n * n)) (fun v => sqT n A (toV e n v)) (pI e ^ n - 2).toNat
  refine ⟨sqT n A (toV e n v0), ⟨toV e n v0, toV_sup, toV_ne he a1 (by omega), fun _ _ => rfl⟩, fun v hv hz => ?_⟩
  obtain ⟨b1, b2, b3⟩ := num_pos he hv hz
  have := a3 (num n v) b1 (by omega)
  rw [b3] at this
  exact this
theorem sim_prt (he : e ≤ 1) (hn : n ≤ 6) {v : Int} (h1 : 1 ≤ v) (h2 : v < pI e ^ n) (hv : smp n A v) : smM (dm n (spS n A (toV e n v))) (prt n A (spS n A (toV e n v))) := by
  have hok := spS_ok (A := A) he hn (toV_sup (e := e) (n := n) (v := v))
  have hS : SI n A (spS n A (toV e n v)) := ⟨hok.1, hok.2.1⟩
  have hr := prt_rep he hS
  refine ⟨dm_pos hS.1 hok.2.2 (toV_ne he h1 h2), Nat.le_trans (dm_le _) hn, fun X hX => ?_⟩
  by_cases q : ∀ x, X x → x = z0
  · exact Or.inl q
  · right
    obtain ⟨x, x1, x2⟩ : ∃ x, X x ∧ x ≠ z0 := Classical.byContradiction (fun z => q (fun x hx => Classical.byContradiction (fun y => z ⟨x, hx, y⟩)))
    obtain ⟨w, w1, w2⟩ := hr.2.2.2.1 x (hX.1.2.2 x x1)
    have hY := pre_SI hr hS hX
    have hw0 : w ≠ z0 := fun z => x2 (by rw [← w2, z, hr.zz hS.1])
    obtain ⟨b1, b2, b3⟩ := num_pos he (hS.1.2.2 w w1) hw0
    have hl := hv (num n w) b1 b2 (by rw [b3]; exact w1)
    rw [sl_dm he, sl_dm he, b3] at hl
    have hin : ∀ u, spS n A w u → pre (phS n (spS n A (toV e n v))) (spS n A (toV e n v)) X u := spS_min hY.1 hY.2 ⟨w1, by rw [w2]; exact x1⟩
    have hw := spS_ok (A := A) he hn (hS.1.2.2 w w1)
    intro y hy
    obtain ⟨u, u1, u2⟩ := hr.2.2.2.1 y hy
    have h3 := dm_all he hw.1 hS.1 (fun u hu => (hin u hu).1) (by omega) u u1
    rw [← u2]
    exact (hin u h3).2
theorem sec_ne (he : e ≤ 1) {U W : Vc e → Prop} {t : Nat × List Int} (h : tyS n A U W t) : ∃ w, W w ∧ ¬ U w := by
  obtain ⟨m, B, φ, F, r, s, -, -⟩ := h
  obtain ⟨w, w1, w2⟩ := r.2.2.2.1 (un 0) (un_sup s.1)
  exact ⟨w, w1, fun z => un_ne he (w2.symm.trans ((r.2.2.1 w w1).mpr z))⟩
theorem sec_dm (he : e ≤ 1) {U W : Vc e → Prop} (hU : Sub n U) (hW : Sub n W) (hUW : ∀ v, U v → W v) {t : Nat × List Int} (h : tyS n A U W t) : dm n U < dm n W := by
  obtain ⟨w, w1, w2⟩ := sec_ne he h
  apply Classical.byContradiction
  intro q
  exact w2 (dm_all he hU hW hUW (by omega) w w1)
theorem MC_ex (he : e ≤ 1) (hn : n ≤ 6) : ∀ (k : Nat) {U : Vc e → Prop}, SI n A U → n ≤ dm n U + k → ∃ L, MC n A L U (sup n) := by
  intro k
  induction k with
  | zero =>
    intro U hU hd
    refine ⟨[], ?_⟩
    show U = sup n
    funext v
    exact propext ⟨hU.1.2.2 v, dm_all he hU.1 (SI_all (A := A)).1 (fun v hv => hU.1.2.2 v hv) (by rw [dm_sup he]; omega) v⟩
  | succ k ih =>
    intro U hU hd
    by_cases q : n ≤ dm n U + k
    · exact ih hU q
    · have hr := rst_rep he hU
      obtain ⟨v, v1, v2, v3⟩ := smp_ex (n := n - dm n U) (A := rst n A U) he (by omega) (by omega)
      have hok := spS_ok (A := rst n A U) he (show n - dm n U ≤ 6 by omega) (toV_sup (e := e) (n := n - dm n U) (v := v))
      have hS : SI (n - dm n U) (rst n A U) (spS (n - dm n U) (rst n A U) (toV e (n - dm n U) v)) := ⟨hok.1, hok.2.1⟩
      have hs := sim_prt he (by omega) v1 v2 v3
      obtain ⟨F, hF⟩ := canP_ex (A := prt (n - dm n U) (rst n A U) (spS (n - dm n U) (rst n A U) (toV e (n - dm n U) v))) he hs.1
      have hc := hr.comp hS.1 (prt_rep he hS)
      rw [pre_z hr (fun v hv => hU.1.2.2 v hv)] at hc
      have hW := pre_SI hr SI_all hS
      have hUW : ∀ w, U w → pre (phR n U) (sup n) (spS (n - dm n U) (rst n A U) (toV e (n - dm n U) v)) w := fun w hw => ⟨hU.1.2.2 w hw, by rw [(hr.2.2.1 w (hU.1.2.2 w hw)).mpr hw]; exact hS.1.1⟩
      have ht : tyS n A U _ (ty _ F) := ⟨_, _, _, F, hc, hs, hF, rfl⟩
      have hd2 := sec_dm he hU.1 hW.1 hUW ht
      obtain ⟨L, hL⟩ := ih hW (by omega)
      exact ⟨_ :: L, _, hW, hUW, ht, hL⟩
end
